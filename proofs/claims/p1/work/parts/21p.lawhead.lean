theorem m_27 : Cond.classLink "LinkedUnitsLaw" 7 "LinkedUnits" ∈ GW := gw_mk 64 (by decide +kernel) (by decide +kernel)
theorem m_28 : Cond.instantiable "LinkedUnits" 15 ∈ GW := gw_mk 65 (by decide +kernel) (by decide +kernel)
theorem m_29 : Cond.methodLink "LinkedUnitsLaw" 9 y_X12_init ∈ GW := gw_mk 66 (by decide +kernel) (by decide +kernel)
theorem m_30 : Cond.instanceMethod y_X12_init ∈ GW := gw_mk 67 (by decide +kernel) (by decide +kernel)
theorem m_781 : Cond.methodLink "LinkedUnitsLaw" 13 y_X12_feed ∈ GW := gw_mk 818 (by decide +kernel) (by decide +kernel)
theorem m_782 : Cond.instanceMethod y_X12_feed ∈ GW := gw_mk 819 (by decide +kernel) (by decide +kernel)
theorem m_783 : Cond.selects "LinkedUnits" y_X12_feed y_X12_feed ∈ GW := gw_mk 820 (by decide +kernel) (by decide +kernel)
theorem m_790 : Cond.methodLink "LinkedUnitsLaw" 18 y_X12_end ∈ GW := gw_mk 827 (by decide +kernel) (by decide +kernel)
theorem m_791 : Cond.instanceMethod y_X12_end ∈ GW := gw_mk 828 (by decide +kernel) (by decide +kernel)
theorem m_792 : Cond.selects "LinkedUnits" y_X12_end y_X12_end ∈ GW := gw_mk 829 (by decide +kernel) (by decide +kernel)
theorem m_794 : Cond.methodLink "LinkedUnitsLaw" 23 y_X12_compile ∈ GW := gw_mk 831 (by decide +kernel) (by decide +kernel)
theorem m_795 : Cond.instanceMethod y_X12_compile ∈ GW := gw_mk 832 (by decide +kernel) (by decide +kernel)
theorem m_796 : Cond.selects "LinkedUnits" y_X12_compile y_X12_compile ∈ GW := gw_mk 833 (by decide +kernel) (by decide +kernel)
theorem m_1501 : Cond.methodLink "LinkedUnitsLaw" 27 y_X12_place ∈ GW := gw_mk 1538 (by decide +kernel) (by decide +kernel)
theorem m_1502 : Cond.instanceMethod y_X12_place ∈ GW := gw_mk 1539 (by decide +kernel) (by decide +kernel)
theorem m_1503 : Cond.selects "LinkedUnits" y_X12_place y_X12_place ∈ GW := gw_mk 1540 (by decide +kernel) (by decide +kernel)
theorem m_1505 : Cond.methodLink "LinkedUnitsLaw" 32 y_X12_objects ∈ GW := gw_mk 1542 (by decide +kernel) (by decide +kernel)
theorem m_1506 : Cond.instanceMethod y_X12_objects ∈ GW := gw_mk 1543 (by decide +kernel) (by decide +kernel)
theorem m_1507 : Cond.selects "LinkedUnits" y_X12_objects y_X12_objects ∈ GW := gw_mk 1544 (by decide +kernel) (by decide +kernel)
theorem m_1509 : Cond.methodLink "LinkedUnitsLaw" 36 y_X12_count ∈ GW := gw_mk 1546 (by decide +kernel) (by decide +kernel)
theorem m_1510 : Cond.instanceMethod y_X12_count ∈ GW := gw_mk 1547 (by decide +kernel) (by decide +kernel)
theorem m_1511 : Cond.selects "LinkedUnits" y_X12_count y_X12_count ∈ GW := gw_mk 1548 (by decide +kernel) (by decide +kernel)
theorem m_1526 : Cond.methodLink "LinkedUnitsLaw" 41 y_X12_name ∈ GW := gw_mk 1563 (by decide +kernel) (by decide +kernel)
theorem m_1527 : Cond.instanceMethod y_X12_name ∈ GW := gw_mk 1564 (by decide +kernel) (by decide +kernel)
theorem m_1528 : Cond.selects "LinkedUnits" y_X12_name y_X12_name ∈ GW := gw_mk 1565 (by decide +kernel) (by decide +kernel)
theorem m_1539 : Cond.methodLink "LinkedUnitsLaw" 46 y_X12_symbol ∈ GW := gw_mk 1576 (by decide +kernel) (by decide +kernel)
theorem m_1540 : Cond.instanceMethod y_X12_symbol ∈ GW := gw_mk 1577 (by decide +kernel) (by decide +kernel)
theorem m_1541 : Cond.selects "LinkedUnits" y_X12_symbol y_X12_symbol ∈ GW := gw_mk 1578 (by decide +kernel) (by decide +kernel)
theorem m_1544 : Cond.methodLink "LinkedUnitsLaw" 50 y_X12_pick ∈ GW := gw_mk 1581 (by decide +kernel) (by decide +kernel)
theorem m_1545 : Cond.instanceMethod y_X12_pick ∈ GW := gw_mk 1582 (by decide +kernel) (by decide +kernel)
theorem m_1546 : Cond.selects "LinkedUnits" y_X12_pick y_X12_pick ∈ GW := gw_mk 1583 (by decide +kernel) (by decide +kernel)
theorem m_1554 : Cond.methodLink "LinkedUnitsLaw" 54 y_X12_link ∈ GW := gw_mk 1591 (by decide +kernel) (by decide +kernel)
theorem m_1555 : Cond.instanceMethod y_X12_link ∈ GW := gw_mk 1592 (by decide +kernel) (by decide +kernel)
theorem m_1556 : Cond.selects "LinkedUnits" y_X12_link y_X12_link ∈ GW := gw_mk 1593 (by decide +kernel) (by decide +kernel)
theorem m_1605 : Cond.methodLink "LinkedUnitsLaw" 58 y_X12_fault ∈ GW := gw_mk 1642 (by decide +kernel) (by decide +kernel)
theorem m_1606 : Cond.instanceMethod y_X12_fault ∈ GW := gw_mk 1643 (by decide +kernel) (by decide +kernel)
theorem m_1607 : Cond.selects "LinkedUnits" y_X12_fault y_X12_fault ∈ GW := gw_mk 1644 (by decide +kernel) (by decide +kernel)
theorem m_1609 : Cond.methodLink "LinkedUnitsLaw" 62 y_X12_cell ∈ GW := gw_mk 1646 (by decide +kernel) (by decide +kernel)
theorem m_1610 : Cond.instanceMethod y_X12_cell ∈ GW := gw_mk 1647 (by decide +kernel) (by decide +kernel)
theorem m_1611 : Cond.selects "LinkedUnits" y_X12_cell y_X12_cell ∈ GW := gw_mk 1648 (by decide +kernel) (by decide +kernel)
theorem m_1617 : Cond.methodLink "LinkedUnitsLaw" 66 y_X12_input ∈ GW := gw_mk 1654 (by decide +kernel) (by decide +kernel)
theorem m_1618 : Cond.instanceMethod y_X12_input ∈ GW := gw_mk 1655 (by decide +kernel) (by decide +kernel)
theorem m_1619 : Cond.selects "LinkedUnits" y_X12_input y_X12_input ∈ GW := gw_mk 1656 (by decide +kernel) (by decide +kernel)
theorem m_1625 : Cond.methodLink "LinkedUnitsLaw" 70 y_X12_run ∈ GW := gw_mk 1662 (by decide +kernel) (by decide +kernel)
theorem m_1626 : Cond.instanceMethod y_X12_run ∈ GW := gw_mk 1663 (by decide +kernel) (by decide +kernel)
theorem m_1627 : Cond.selects "LinkedUnits" y_X12_run y_X12_run ∈ GW := gw_mk 1664 (by decide +kernel) (by decide +kernel)
theorem m_1756 : Cond.methodLink "LinkedUnitsLaw" 74 y_X12_result ∈ GW := gw_mk 1793 (by decide +kernel) (by decide +kernel)
theorem m_1757 : Cond.instanceMethod y_X12_result ∈ GW := gw_mk 1794 (by decide +kernel) (by decide +kernel)
theorem m_1758 : Cond.selects "LinkedUnits" y_X12_result y_X12_result ∈ GW := gw_mk 1795 (by decide +kernel) (by decide +kernel)
theorem m_1760 : Cond.methodLink "LinkedUnitsLaw" 78 y_X12_turns ∈ GW := gw_mk 1797 (by decide +kernel) (by decide +kernel)
theorem m_1761 : Cond.instanceMethod y_X12_turns ∈ GW := gw_mk 1798 (by decide +kernel) (by decide +kernel)
theorem m_1762 : Cond.selects "LinkedUnits" y_X12_turns y_X12_turns ∈ GW := gw_mk 1799 (by decide +kernel) (by decide +kernel)
theorem m_1764 : Cond.methodLink "LinkedUnitsLaw" 82 y_X12_trap ∈ GW := gw_mk 1801 (by decide +kernel) (by decide +kernel)
theorem m_1765 : Cond.instanceMethod y_X12_trap ∈ GW := gw_mk 1802 (by decide +kernel) (by decide +kernel)
theorem m_1766 : Cond.selects "LinkedUnits" y_X12_trap y_X12_trap ∈ GW := gw_mk 1803 (by decide +kernel) (by decide +kernel)
theorem m_1772 : Cond.methodLink "LinkedUnitsLaw" 86 y_X12_written ∈ GW := gw_mk 1809 (by decide +kernel) (by decide +kernel)
theorem m_1773 : Cond.instanceMethod y_X12_written ∈ GW := gw_mk 1810 (by decide +kernel) (by decide +kernel)
theorem m_1774 : Cond.selects "LinkedUnits" y_X12_written y_X12_written ∈ GW := gw_mk 1811 (by decide +kernel) (by decide +kernel)
theorem m_1776 : Cond.methodLink "LinkedUnitsLaw" 90 y_X12_out ∈ GW := gw_mk 1813 (by decide +kernel) (by decide +kernel)
theorem m_1777 : Cond.instanceMethod y_X12_out ∈ GW := gw_mk 1814 (by decide +kernel) (by decide +kernel)
theorem m_1778 : Cond.selects "LinkedUnits" y_X12_out y_X12_out ∈ GW := gw_mk 1815 (by decide +kernel) (by decide +kernel)
theorem m_1784 : Cond.methodLink "LinkedUnitsLaw" 94 y_X12_peek ∈ GW := gw_mk 1821 (by decide +kernel) (by decide +kernel)
theorem m_1785 : Cond.instanceMethod y_X12_peek ∈ GW := gw_mk 1822 (by decide +kernel) (by decide +kernel)
theorem m_1786 : Cond.selects "LinkedUnits" y_X12_peek y_X12_peek ∈ GW := gw_mk 1823 (by decide +kernel) (by decide +kernel)
theorem m_1788 : Cond.methodLink "LinkedUnitsLaw" 98 y_X12_strays ∈ GW := gw_mk 1825 (by decide +kernel) (by decide +kernel)
theorem m_1789 : Cond.instanceMethod y_X12_strays ∈ GW := gw_mk 1826 (by decide +kernel) (by decide +kernel)
theorem m_1790 : Cond.selects "LinkedUnits" y_X12_strays y_X12_strays ∈ GW := gw_mk 1827 (by decide +kernel) (by decide +kernel)
theorem m_1792 : Cond.classLink "LinkedUnitsLaw" 10 "LinkedUnitsModel" ∈ GW := gw_mk 1829 (by decide +kernel) (by decide +kernel)
theorem m_1793 : Cond.instantiable "LinkedUnitsModel" 100 ∈ GW := gw_mk 1830 (by decide +kernel) (by decide +kernel)
theorem m_1794 : Cond.methodLink "LinkedUnitsLaw" 12 y_X14_init ∈ GW := gw_mk 1831 (by decide +kernel) (by decide +kernel)
theorem m_1795 : Cond.instanceMethod y_X14_init ∈ GW := gw_mk 1832 (by decide +kernel) (by decide +kernel)
theorem m_2167 : Cond.methodLink "LinkedUnitsLaw" 17 y_X14_feed ∈ GW := gw_mk 2204 (by decide +kernel) (by decide +kernel)
theorem m_2168 : Cond.instanceMethod y_X14_feed ∈ GW := gw_mk 2205 (by decide +kernel) (by decide +kernel)
theorem m_2169 : Cond.selects "LinkedUnitsModel" y_X14_feed y_X14_feed ∈ GW := gw_mk 2206 (by decide +kernel) (by decide +kernel)
theorem m_2171 : Cond.methodLink "LinkedUnitsLaw" 22 y_X14_end ∈ GW := gw_mk 2208 (by decide +kernel) (by decide +kernel)
theorem m_2172 : Cond.instanceMethod y_X14_end ∈ GW := gw_mk 2209 (by decide +kernel) (by decide +kernel)
theorem m_2173 : Cond.selects "LinkedUnitsModel" y_X14_end y_X14_end ∈ GW := gw_mk 2210 (by decide +kernel) (by decide +kernel)
theorem m_2175 : Cond.methodLink "LinkedUnitsLaw" 26 y_X14_compile ∈ GW := gw_mk 2212 (by decide +kernel) (by decide +kernel)
theorem m_2176 : Cond.instanceMethod y_X14_compile ∈ GW := gw_mk 2213 (by decide +kernel) (by decide +kernel)
theorem m_2177 : Cond.selects "LinkedUnitsModel" y_X14_compile y_X14_compile ∈ GW := gw_mk 2214 (by decide +kernel) (by decide +kernel)
theorem m_2636 : Cond.methodLink "LinkedUnitsLaw" 31 y_X14_place ∈ GW := gw_mk 2673 (by decide +kernel) (by decide +kernel)
theorem m_2637 : Cond.instanceMethod y_X14_place ∈ GW := gw_mk 2674 (by decide +kernel) (by decide +kernel)
theorem m_2638 : Cond.selects "LinkedUnitsModel" y_X14_place y_X14_place ∈ GW := gw_mk 2675 (by decide +kernel) (by decide +kernel)
theorem m_2640 : Cond.methodLink "LinkedUnitsLaw" 35 y_X14_objects ∈ GW := gw_mk 2677 (by decide +kernel) (by decide +kernel)
theorem m_2641 : Cond.instanceMethod y_X14_objects ∈ GW := gw_mk 2678 (by decide +kernel) (by decide +kernel)
theorem m_2642 : Cond.selects "LinkedUnitsModel" y_X14_objects y_X14_objects ∈ GW := gw_mk 2679 (by decide +kernel) (by decide +kernel)
theorem m_2644 : Cond.methodLink "LinkedUnitsLaw" 40 y_X14_count ∈ GW := gw_mk 2681 (by decide +kernel) (by decide +kernel)
theorem m_2645 : Cond.instanceMethod y_X14_count ∈ GW := gw_mk 2682 (by decide +kernel) (by decide +kernel)
theorem m_2646 : Cond.selects "LinkedUnitsModel" y_X14_count y_X14_count ∈ GW := gw_mk 2683 (by decide +kernel) (by decide +kernel)
theorem m_2656 : Cond.methodLink "LinkedUnitsLaw" 45 y_X14_name ∈ GW := gw_mk 2693 (by decide +kernel) (by decide +kernel)
theorem m_2657 : Cond.instanceMethod y_X14_name ∈ GW := gw_mk 2694 (by decide +kernel) (by decide +kernel)
theorem m_2658 : Cond.selects "LinkedUnitsModel" y_X14_name y_X14_name ∈ GW := gw_mk 2695 (by decide +kernel) (by decide +kernel)
theorem m_2664 : Cond.methodLink "LinkedUnitsLaw" 49 y_X14_symbol ∈ GW := gw_mk 2701 (by decide +kernel) (by decide +kernel)
theorem m_2665 : Cond.instanceMethod y_X14_symbol ∈ GW := gw_mk 2702 (by decide +kernel) (by decide +kernel)
theorem m_2666 : Cond.selects "LinkedUnitsModel" y_X14_symbol y_X14_symbol ∈ GW := gw_mk 2703 (by decide +kernel) (by decide +kernel)
theorem m_2668 : Cond.methodLink "LinkedUnitsLaw" 53 y_X14_pick ∈ GW := gw_mk 2705 (by decide +kernel) (by decide +kernel)
theorem m_2669 : Cond.instanceMethod y_X14_pick ∈ GW := gw_mk 2706 (by decide +kernel) (by decide +kernel)
theorem m_2670 : Cond.selects "LinkedUnitsModel" y_X14_pick y_X14_pick ∈ GW := gw_mk 2707 (by decide +kernel) (by decide +kernel)
theorem m_2672 : Cond.methodLink "LinkedUnitsLaw" 57 y_X14_link ∈ GW := gw_mk 2709 (by decide +kernel) (by decide +kernel)
theorem m_2673 : Cond.instanceMethod y_X14_link ∈ GW := gw_mk 2710 (by decide +kernel) (by decide +kernel)
theorem m_2674 : Cond.selects "LinkedUnitsModel" y_X14_link y_X14_link ∈ GW := gw_mk 2711 (by decide +kernel) (by decide +kernel)
theorem m_2721 : Cond.methodLink "LinkedUnitsLaw" 61 y_X14_fault ∈ GW := gw_mk 2758 (by decide +kernel) (by decide +kernel)
theorem m_2722 : Cond.instanceMethod y_X14_fault ∈ GW := gw_mk 2759 (by decide +kernel) (by decide +kernel)
theorem m_2723 : Cond.selects "LinkedUnitsModel" y_X14_fault y_X14_fault ∈ GW := gw_mk 2760 (by decide +kernel) (by decide +kernel)
theorem m_2725 : Cond.methodLink "LinkedUnitsLaw" 65 y_X14_cell ∈ GW := gw_mk 2762 (by decide +kernel) (by decide +kernel)
theorem m_2726 : Cond.instanceMethod y_X14_cell ∈ GW := gw_mk 2763 (by decide +kernel) (by decide +kernel)
theorem m_2727 : Cond.selects "LinkedUnitsModel" y_X14_cell y_X14_cell ∈ GW := gw_mk 2764 (by decide +kernel) (by decide +kernel)
theorem m_2733 : Cond.methodLink "LinkedUnitsLaw" 69 y_X14_input ∈ GW := gw_mk 2770 (by decide +kernel) (by decide +kernel)
theorem m_2734 : Cond.instanceMethod y_X14_input ∈ GW := gw_mk 2771 (by decide +kernel) (by decide +kernel)
theorem m_2735 : Cond.selects "LinkedUnitsModel" y_X14_input y_X14_input ∈ GW := gw_mk 2772 (by decide +kernel) (by decide +kernel)
theorem m_2737 : Cond.methodLink "LinkedUnitsLaw" 73 y_X14_run ∈ GW := gw_mk 2774 (by decide +kernel) (by decide +kernel)
theorem m_2738 : Cond.instanceMethod y_X14_run ∈ GW := gw_mk 2775 (by decide +kernel) (by decide +kernel)
theorem m_2739 : Cond.selects "LinkedUnitsModel" y_X14_run y_X14_run ∈ GW := gw_mk 2776 (by decide +kernel) (by decide +kernel)
theorem m_2812 : Cond.methodLink "LinkedUnitsLaw" 77 y_X14_result ∈ GW := gw_mk 2849 (by decide +kernel) (by decide +kernel)
theorem m_2813 : Cond.instanceMethod y_X14_result ∈ GW := gw_mk 2850 (by decide +kernel) (by decide +kernel)
theorem m_2814 : Cond.selects "LinkedUnitsModel" y_X14_result y_X14_result ∈ GW := gw_mk 2851 (by decide +kernel) (by decide +kernel)
theorem m_2816 : Cond.methodLink "LinkedUnitsLaw" 81 y_X14_turns ∈ GW := gw_mk 2853 (by decide +kernel) (by decide +kernel)
theorem m_2817 : Cond.instanceMethod y_X14_turns ∈ GW := gw_mk 2854 (by decide +kernel) (by decide +kernel)
theorem m_2818 : Cond.selects "LinkedUnitsModel" y_X14_turns y_X14_turns ∈ GW := gw_mk 2855 (by decide +kernel) (by decide +kernel)
theorem m_2820 : Cond.methodLink "LinkedUnitsLaw" 85 y_X14_trap ∈ GW := gw_mk 2857 (by decide +kernel) (by decide +kernel)
theorem m_2821 : Cond.instanceMethod y_X14_trap ∈ GW := gw_mk 2858 (by decide +kernel) (by decide +kernel)
theorem m_2822 : Cond.selects "LinkedUnitsModel" y_X14_trap y_X14_trap ∈ GW := gw_mk 2859 (by decide +kernel) (by decide +kernel)
theorem m_2824 : Cond.methodLink "LinkedUnitsLaw" 89 y_X14_written ∈ GW := gw_mk 2861 (by decide +kernel) (by decide +kernel)
theorem m_2825 : Cond.instanceMethod y_X14_written ∈ GW := gw_mk 2862 (by decide +kernel) (by decide +kernel)
theorem m_2826 : Cond.selects "LinkedUnitsModel" y_X14_written y_X14_written ∈ GW := gw_mk 2863 (by decide +kernel) (by decide +kernel)
theorem m_2828 : Cond.methodLink "LinkedUnitsLaw" 93 y_X14_out ∈ GW := gw_mk 2865 (by decide +kernel) (by decide +kernel)
theorem m_2829 : Cond.instanceMethod y_X14_out ∈ GW := gw_mk 2866 (by decide +kernel) (by decide +kernel)
theorem m_2830 : Cond.selects "LinkedUnitsModel" y_X14_out y_X14_out ∈ GW := gw_mk 2867 (by decide +kernel) (by decide +kernel)
theorem m_2832 : Cond.methodLink "LinkedUnitsLaw" 97 y_X14_peek ∈ GW := gw_mk 2869 (by decide +kernel) (by decide +kernel)
theorem m_2833 : Cond.instanceMethod y_X14_peek ∈ GW := gw_mk 2870 (by decide +kernel) (by decide +kernel)
theorem m_2834 : Cond.selects "LinkedUnitsModel" y_X14_peek y_X14_peek ∈ GW := gw_mk 2871 (by decide +kernel) (by decide +kernel)
theorem m_2836 : Cond.methodLink "LinkedUnitsLaw" 101 y_X14_strays ∈ GW := gw_mk 2873 (by decide +kernel) (by decide +kernel)
theorem m_2837 : Cond.instanceMethod y_X14_strays ∈ GW := gw_mk 2874 (by decide +kernel) (by decide +kernel)
theorem m_2838 : Cond.selects "LinkedUnitsModel" y_X14_strays y_X14_strays ∈ GW := gw_mk 2875 (by decide +kernel) (by decide +kernel)
theorem dl_0 : decode code 0 = .ok (.new 7, 3) := by decide +kernel
theorem dl_3 : decode code 3 = .ok (.dup, 1) := by decide +kernel
theorem dl_4 : decode code 4 = .ok (.invokespecial 9, 3) := by decide +kernel
theorem dl_7 : decode code 7 = .ok (.astore_n 1, 1) := by decide +kernel
theorem dl_8 : decode code 8 = .ok (.new 10, 3) := by decide +kernel
theorem dl_11 : decode code 11 = .ok (.dup, 1) := by decide +kernel
theorem dl_12 : decode code 12 = .ok (.invokespecial 12, 3) := by decide +kernel
theorem dl_15 : decode code 15 = .ok (.astore_n 2, 1) := by decide +kernel
theorem dl_16 : decode code 16 = .ok (.iconst 0, 1) := by decide +kernel
theorem dl_17 : decode code 17 = .ok (.istore_n 3, 1) := by decide +kernel
theorem dl_18 : decode code 18 = .ok (.iload_n 3, 1) := by decide +kernel
theorem dl_19 : decode code 19 = .ok (.aload_n 0, 1) := by decide +kernel
theorem dl_20 : decode code 20 = .ok (.arraylength, 1) := by decide +kernel
theorem dl_21 : decode code 21 = .ok (.bipush 6, 2) := by decide +kernel
theorem dl_23 : decode code 23 = .ok (.isub, 1) := by decide +kernel
theorem dl_24 : decode code 24 = .ok (.if_icmp .gt 597, 3) := by decide +kernel
theorem dl_27 : decode code 27 = .ok (.aload_n 0, 1) := by decide +kernel
theorem dl_28 : decode code 28 = .ok (.iload_n 3, 1) := by decide +kernel
theorem dl_29 : decode code 29 = .ok (.iaload, 1) := by decide +kernel
theorem dl_30 : decode code 30 = .ok (.bipush 31, 2) := by decide +kernel
theorem dl_32 : decode code 32 = .ok (.iand, 1) := by decide +kernel
theorem dl_33 : decode code 33 = .ok (.tableswitch 582 0 20 #[99, 162, 185, 208, 221, 234, 267, 310, 343, 366, 379, 402, 415, 438, 461, 474, 487, 510, 523, 546, 569], 99) := by decide +kernel
theorem dl_132 : decode code 132 = .ok (.aload_n 1, 1) := by decide +kernel
theorem dl_133 : decode code 133 = .ok (.aload_n 0, 1) := by decide +kernel
theorem dl_134 : decode code 134 = .ok (.iload_n 3, 1) := by decide +kernel
theorem dl_135 : decode code 135 = .ok (.iconst 1, 1) := by decide +kernel
theorem dl_136 : decode code 136 = .ok (.iadd, 1) := by decide +kernel
theorem dl_137 : decode code 137 = .ok (.iaload, 1) := by decide +kernel
theorem dl_138 : decode code 138 = .ok (.aload_n 0, 1) := by decide +kernel
theorem dl_139 : decode code 139 = .ok (.iload_n 3, 1) := by decide +kernel
theorem dl_140 : decode code 140 = .ok (.iconst 2, 1) := by decide +kernel
theorem dl_141 : decode code 141 = .ok (.iadd, 1) := by decide +kernel
theorem dl_142 : decode code 142 = .ok (.iaload, 1) := by decide +kernel
theorem dl_143 : decode code 143 = .ok (.aload_n 0, 1) := by decide +kernel
theorem dl_144 : decode code 144 = .ok (.iload_n 3, 1) := by decide +kernel
theorem dl_145 : decode code 145 = .ok (.iconst 3, 1) := by decide +kernel
theorem dl_146 : decode code 146 = .ok (.iadd, 1) := by decide +kernel
theorem dl_147 : decode code 147 = .ok (.iaload, 1) := by decide +kernel
theorem dl_148 : decode code 148 = .ok (.aload_n 0, 1) := by decide +kernel
theorem dl_149 : decode code 149 = .ok (.iload_n 3, 1) := by decide +kernel
theorem dl_150 : decode code 150 = .ok (.iconst 4, 1) := by decide +kernel
theorem dl_151 : decode code 151 = .ok (.iadd, 1) := by decide +kernel
theorem dl_152 : decode code 152 = .ok (.iaload, 1) := by decide +kernel
theorem dl_153 : decode code 153 = .ok (.aload_n 0, 1) := by decide +kernel
theorem dl_154 : decode code 154 = .ok (.iload_n 3, 1) := by decide +kernel
theorem dl_155 : decode code 155 = .ok (.iconst 5, 1) := by decide +kernel
theorem dl_156 : decode code 156 = .ok (.iadd, 1) := by decide +kernel
theorem dl_157 : decode code 157 = .ok (.iaload, 1) := by decide +kernel
theorem dl_158 : decode code 158 = .ok (.invokevirtual 13, 3) := by decide +kernel
theorem dl_161 : decode code 161 = .ok (.aload_n 2, 1) := by decide +kernel
theorem dl_162 : decode code 162 = .ok (.aload_n 0, 1) := by decide +kernel
theorem dl_163 : decode code 163 = .ok (.iload_n 3, 1) := by decide +kernel
theorem dl_164 : decode code 164 = .ok (.iconst 1, 1) := by decide +kernel
theorem dl_165 : decode code 165 = .ok (.iadd, 1) := by decide +kernel
theorem dl_166 : decode code 166 = .ok (.iaload, 1) := by decide +kernel
theorem dl_167 : decode code 167 = .ok (.aload_n 0, 1) := by decide +kernel
theorem dl_168 : decode code 168 = .ok (.iload_n 3, 1) := by decide +kernel
theorem dl_169 : decode code 169 = .ok (.iconst 2, 1) := by decide +kernel
theorem dl_170 : decode code 170 = .ok (.iadd, 1) := by decide +kernel
theorem dl_171 : decode code 171 = .ok (.iaload, 1) := by decide +kernel
theorem dl_172 : decode code 172 = .ok (.aload_n 0, 1) := by decide +kernel
theorem dl_173 : decode code 173 = .ok (.iload_n 3, 1) := by decide +kernel
theorem dl_174 : decode code 174 = .ok (.iconst 3, 1) := by decide +kernel
theorem dl_175 : decode code 175 = .ok (.iadd, 1) := by decide +kernel
theorem dl_176 : decode code 176 = .ok (.iaload, 1) := by decide +kernel
theorem dl_177 : decode code 177 = .ok (.aload_n 0, 1) := by decide +kernel
theorem dl_178 : decode code 178 = .ok (.iload_n 3, 1) := by decide +kernel
theorem dl_179 : decode code 179 = .ok (.iconst 4, 1) := by decide +kernel
theorem dl_180 : decode code 180 = .ok (.iadd, 1) := by decide +kernel
theorem dl_181 : decode code 181 = .ok (.iaload, 1) := by decide +kernel
theorem dl_182 : decode code 182 = .ok (.aload_n 0, 1) := by decide +kernel
theorem dl_183 : decode code 183 = .ok (.iload_n 3, 1) := by decide +kernel
theorem dl_184 : decode code 184 = .ok (.iconst 5, 1) := by decide +kernel
theorem dl_185 : decode code 185 = .ok (.iadd, 1) := by decide +kernel
theorem dl_186 : decode code 186 = .ok (.iaload, 1) := by decide +kernel
theorem dl_187 : decode code 187 = .ok (.invokevirtual 17, 3) := by decide +kernel
theorem dl_190 : decode code 190 = .ok (.if_icmp .eq 425, 3) := by decide +kernel
theorem dl_195 : decode code 195 = .ok (.aload_n 1, 1) := by decide +kernel
theorem dl_196 : decode code 196 = .ok (.aload_n 0, 1) := by decide +kernel
theorem dl_197 : decode code 197 = .ok (.iload_n 3, 1) := by decide +kernel
theorem dl_198 : decode code 198 = .ok (.iconst 1, 1) := by decide +kernel
theorem dl_199 : decode code 199 = .ok (.iadd, 1) := by decide +kernel
theorem dl_200 : decode code 200 = .ok (.iaload, 1) := by decide +kernel
theorem dl_201 : decode code 201 = .ok (.invokevirtual 18, 3) := by decide +kernel
theorem dl_204 : decode code 204 = .ok (.aload_n 2, 1) := by decide +kernel
theorem dl_205 : decode code 205 = .ok (.aload_n 0, 1) := by decide +kernel
theorem dl_206 : decode code 206 = .ok (.iload_n 3, 1) := by decide +kernel
theorem dl_207 : decode code 207 = .ok (.iconst 1, 1) := by decide +kernel
theorem dl_208 : decode code 208 = .ok (.iadd, 1) := by decide +kernel
theorem dl_209 : decode code 209 = .ok (.iaload, 1) := by decide +kernel
theorem dl_210 : decode code 210 = .ok (.invokevirtual 22, 3) := by decide +kernel
theorem dl_213 : decode code 213 = .ok (.if_icmp .eq 402, 3) := by decide +kernel
theorem dl_218 : decode code 218 = .ok (.aload_n 1, 1) := by decide +kernel
theorem dl_219 : decode code 219 = .ok (.aload_n 0, 1) := by decide +kernel
theorem dl_220 : decode code 220 = .ok (.iload_n 3, 1) := by decide +kernel
theorem dl_221 : decode code 221 = .ok (.iconst 1, 1) := by decide +kernel
theorem dl_222 : decode code 222 = .ok (.iadd, 1) := by decide +kernel
theorem dl_223 : decode code 223 = .ok (.iaload, 1) := by decide +kernel
theorem dl_224 : decode code 224 = .ok (.invokevirtual 23, 3) := by decide +kernel
theorem dl_227 : decode code 227 = .ok (.aload_n 2, 1) := by decide +kernel
theorem dl_228 : decode code 228 = .ok (.aload_n 0, 1) := by decide +kernel
theorem dl_229 : decode code 229 = .ok (.iload_n 3, 1) := by decide +kernel
theorem dl_230 : decode code 230 = .ok (.iconst 1, 1) := by decide +kernel
theorem dl_231 : decode code 231 = .ok (.iadd, 1) := by decide +kernel
theorem dl_232 : decode code 232 = .ok (.iaload, 1) := by decide +kernel
theorem dl_233 : decode code 233 = .ok (.invokevirtual 26, 3) := by decide +kernel
theorem dl_236 : decode code 236 = .ok (.if_icmp .eq 379, 3) := by decide +kernel
theorem dl_241 : decode code 241 = .ok (.aload_n 1, 1) := by decide +kernel
theorem dl_242 : decode code 242 = .ok (.invokevirtual 27, 3) := by decide +kernel
theorem dl_245 : decode code 245 = .ok (.aload_n 2, 1) := by decide +kernel
theorem dl_246 : decode code 246 = .ok (.invokevirtual 31, 3) := by decide +kernel
theorem dl_249 : decode code 249 = .ok (.if_icmp .eq 366, 3) := by decide +kernel
theorem dl_254 : decode code 254 = .ok (.aload_n 1, 1) := by decide +kernel
theorem dl_255 : decode code 255 = .ok (.invokevirtual 32, 3) := by decide +kernel
theorem dl_258 : decode code 258 = .ok (.aload_n 2, 1) := by decide +kernel
theorem dl_259 : decode code 259 = .ok (.invokevirtual 35, 3) := by decide +kernel
theorem dl_262 : decode code 262 = .ok (.if_icmp .eq 353, 3) := by decide +kernel
theorem dl_267 : decode code 267 = .ok (.aload_n 1, 1) := by decide +kernel
theorem dl_268 : decode code 268 = .ok (.aload_n 0, 1) := by decide +kernel
theorem dl_269 : decode code 269 = .ok (.iload_n 3, 1) := by decide +kernel
theorem dl_270 : decode code 270 = .ok (.iconst 1, 1) := by decide +kernel
theorem dl_271 : decode code 271 = .ok (.iadd, 1) := by decide +kernel
theorem dl_272 : decode code 272 = .ok (.iaload, 1) := by decide +kernel
theorem dl_273 : decode code 273 = .ok (.aload_n 0, 1) := by decide +kernel
theorem dl_274 : decode code 274 = .ok (.iload_n 3, 1) := by decide +kernel
theorem dl_275 : decode code 275 = .ok (.iconst 2, 1) := by decide +kernel
theorem dl_276 : decode code 276 = .ok (.iadd, 1) := by decide +kernel
theorem dl_277 : decode code 277 = .ok (.iaload, 1) := by decide +kernel
theorem dl_278 : decode code 278 = .ok (.invokevirtual 36, 3) := by decide +kernel
theorem dl_281 : decode code 281 = .ok (.aload_n 2, 1) := by decide +kernel
theorem dl_282 : decode code 282 = .ok (.aload_n 0, 1) := by decide +kernel
theorem dl_283 : decode code 283 = .ok (.iload_n 3, 1) := by decide +kernel
theorem dl_284 : decode code 284 = .ok (.iconst 1, 1) := by decide +kernel
theorem dl_285 : decode code 285 = .ok (.iadd, 1) := by decide +kernel
theorem dl_286 : decode code 286 = .ok (.iaload, 1) := by decide +kernel
theorem dl_287 : decode code 287 = .ok (.aload_n 0, 1) := by decide +kernel
theorem dl_288 : decode code 288 = .ok (.iload_n 3, 1) := by decide +kernel
theorem dl_289 : decode code 289 = .ok (.iconst 2, 1) := by decide +kernel
theorem dl_290 : decode code 290 = .ok (.iadd, 1) := by decide +kernel
theorem dl_291 : decode code 291 = .ok (.iaload, 1) := by decide +kernel
theorem dl_292 : decode code 292 = .ok (.invokevirtual 40, 3) := by decide +kernel
theorem dl_295 : decode code 295 = .ok (.if_icmp .eq 320, 3) := by decide +kernel
theorem dl_300 : decode code 300 = .ok (.aload_n 1, 1) := by decide +kernel
theorem dl_301 : decode code 301 = .ok (.aload_n 0, 1) := by decide +kernel
theorem dl_302 : decode code 302 = .ok (.iload_n 3, 1) := by decide +kernel
theorem dl_303 : decode code 303 = .ok (.iconst 1, 1) := by decide +kernel
theorem dl_304 : decode code 304 = .ok (.iadd, 1) := by decide +kernel
theorem dl_305 : decode code 305 = .ok (.iaload, 1) := by decide +kernel
theorem dl_306 : decode code 306 = .ok (.aload_n 0, 1) := by decide +kernel
theorem dl_307 : decode code 307 = .ok (.iload_n 3, 1) := by decide +kernel
theorem dl_308 : decode code 308 = .ok (.iconst 2, 1) := by decide +kernel
theorem dl_309 : decode code 309 = .ok (.iadd, 1) := by decide +kernel
theorem dl_310 : decode code 310 = .ok (.iaload, 1) := by decide +kernel
theorem dl_311 : decode code 311 = .ok (.aload_n 0, 1) := by decide +kernel
theorem dl_312 : decode code 312 = .ok (.iload_n 3, 1) := by decide +kernel
theorem dl_313 : decode code 313 = .ok (.iconst 3, 1) := by decide +kernel
theorem dl_314 : decode code 314 = .ok (.iadd, 1) := by decide +kernel
theorem dl_315 : decode code 315 = .ok (.iaload, 1) := by decide +kernel
theorem dl_316 : decode code 316 = .ok (.invokevirtual 41, 3) := by decide +kernel
theorem dl_319 : decode code 319 = .ok (.aload_n 2, 1) := by decide +kernel
theorem dl_320 : decode code 320 = .ok (.aload_n 0, 1) := by decide +kernel
theorem dl_321 : decode code 321 = .ok (.iload_n 3, 1) := by decide +kernel
theorem dl_322 : decode code 322 = .ok (.iconst 1, 1) := by decide +kernel
theorem dl_323 : decode code 323 = .ok (.iadd, 1) := by decide +kernel
theorem dl_324 : decode code 324 = .ok (.iaload, 1) := by decide +kernel
theorem dl_325 : decode code 325 = .ok (.aload_n 0, 1) := by decide +kernel
theorem dl_326 : decode code 326 = .ok (.iload_n 3, 1) := by decide +kernel
theorem dl_327 : decode code 327 = .ok (.iconst 2, 1) := by decide +kernel
theorem dl_328 : decode code 328 = .ok (.iadd, 1) := by decide +kernel
theorem dl_329 : decode code 329 = .ok (.iaload, 1) := by decide +kernel
theorem dl_330 : decode code 330 = .ok (.aload_n 0, 1) := by decide +kernel
theorem dl_331 : decode code 331 = .ok (.iload_n 3, 1) := by decide +kernel
theorem dl_332 : decode code 332 = .ok (.iconst 3, 1) := by decide +kernel
theorem dl_333 : decode code 333 = .ok (.iadd, 1) := by decide +kernel
theorem dl_334 : decode code 334 = .ok (.iaload, 1) := by decide +kernel
theorem dl_335 : decode code 335 = .ok (.invokevirtual 45, 3) := by decide +kernel
theorem dl_338 : decode code 338 = .ok (.if_icmp .eq 277, 3) := by decide +kernel
theorem dl_343 : decode code 343 = .ok (.aload_n 1, 1) := by decide +kernel
theorem dl_344 : decode code 344 = .ok (.aload_n 0, 1) := by decide +kernel
theorem dl_345 : decode code 345 = .ok (.iload_n 3, 1) := by decide +kernel
theorem dl_346 : decode code 346 = .ok (.iconst 1, 1) := by decide +kernel
theorem dl_347 : decode code 347 = .ok (.iadd, 1) := by decide +kernel
theorem dl_348 : decode code 348 = .ok (.iaload, 1) := by decide +kernel
theorem dl_349 : decode code 349 = .ok (.aload_n 0, 1) := by decide +kernel
theorem dl_350 : decode code 350 = .ok (.iload_n 3, 1) := by decide +kernel
theorem dl_351 : decode code 351 = .ok (.iconst 2, 1) := by decide +kernel
theorem dl_352 : decode code 352 = .ok (.iadd, 1) := by decide +kernel
theorem dl_353 : decode code 353 = .ok (.iaload, 1) := by decide +kernel
theorem dl_354 : decode code 354 = .ok (.invokevirtual 46, 3) := by decide +kernel
theorem dl_357 : decode code 357 = .ok (.aload_n 2, 1) := by decide +kernel
theorem dl_358 : decode code 358 = .ok (.aload_n 0, 1) := by decide +kernel
theorem dl_359 : decode code 359 = .ok (.iload_n 3, 1) := by decide +kernel
theorem dl_360 : decode code 360 = .ok (.iconst 1, 1) := by decide +kernel
theorem dl_361 : decode code 361 = .ok (.iadd, 1) := by decide +kernel
theorem dl_362 : decode code 362 = .ok (.iaload, 1) := by decide +kernel
theorem dl_363 : decode code 363 = .ok (.aload_n 0, 1) := by decide +kernel
theorem dl_364 : decode code 364 = .ok (.iload_n 3, 1) := by decide +kernel
theorem dl_365 : decode code 365 = .ok (.iconst 2, 1) := by decide +kernel
theorem dl_366 : decode code 366 = .ok (.iadd, 1) := by decide +kernel
theorem dl_367 : decode code 367 = .ok (.iaload, 1) := by decide +kernel
theorem dl_368 : decode code 368 = .ok (.invokevirtual 49, 3) := by decide +kernel
theorem dl_371 : decode code 371 = .ok (.if_icmp .eq 244, 3) := by decide +kernel
theorem dl_376 : decode code 376 = .ok (.aload_n 1, 1) := by decide +kernel
theorem dl_377 : decode code 377 = .ok (.aload_n 0, 1) := by decide +kernel
theorem dl_378 : decode code 378 = .ok (.iload_n 3, 1) := by decide +kernel
theorem dl_379 : decode code 379 = .ok (.iconst 1, 1) := by decide +kernel
theorem dl_380 : decode code 380 = .ok (.iadd, 1) := by decide +kernel
theorem dl_381 : decode code 381 = .ok (.iaload, 1) := by decide +kernel
theorem dl_382 : decode code 382 = .ok (.invokevirtual 50, 3) := by decide +kernel
theorem dl_385 : decode code 385 = .ok (.aload_n 2, 1) := by decide +kernel
theorem dl_386 : decode code 386 = .ok (.aload_n 0, 1) := by decide +kernel
theorem dl_387 : decode code 387 = .ok (.iload_n 3, 1) := by decide +kernel
theorem dl_388 : decode code 388 = .ok (.iconst 1, 1) := by decide +kernel
theorem dl_389 : decode code 389 = .ok (.iadd, 1) := by decide +kernel
theorem dl_390 : decode code 390 = .ok (.iaload, 1) := by decide +kernel
theorem dl_391 : decode code 391 = .ok (.invokevirtual 53, 3) := by decide +kernel
theorem dl_394 : decode code 394 = .ok (.if_icmp .eq 221, 3) := by decide +kernel
theorem dl_399 : decode code 399 = .ok (.aload_n 1, 1) := by decide +kernel
theorem dl_400 : decode code 400 = .ok (.invokevirtual 54, 3) := by decide +kernel
theorem dl_403 : decode code 403 = .ok (.aload_n 2, 1) := by decide +kernel
theorem dl_404 : decode code 404 = .ok (.invokevirtual 57, 3) := by decide +kernel
theorem dl_407 : decode code 407 = .ok (.if_icmp .eq 208, 3) := by decide +kernel
theorem dl_412 : decode code 412 = .ok (.aload_n 1, 1) := by decide +kernel
theorem dl_413 : decode code 413 = .ok (.aload_n 0, 1) := by decide +kernel
theorem dl_414 : decode code 414 = .ok (.iload_n 3, 1) := by decide +kernel
theorem dl_415 : decode code 415 = .ok (.iconst 1, 1) := by decide +kernel
theorem dl_416 : decode code 416 = .ok (.iadd, 1) := by decide +kernel
theorem dl_417 : decode code 417 = .ok (.iaload, 1) := by decide +kernel
theorem dl_418 : decode code 418 = .ok (.invokevirtual 58, 3) := by decide +kernel
theorem dl_421 : decode code 421 = .ok (.aload_n 2, 1) := by decide +kernel
theorem dl_422 : decode code 422 = .ok (.aload_n 0, 1) := by decide +kernel
theorem dl_423 : decode code 423 = .ok (.iload_n 3, 1) := by decide +kernel
theorem dl_424 : decode code 424 = .ok (.iconst 1, 1) := by decide +kernel
theorem dl_425 : decode code 425 = .ok (.iadd, 1) := by decide +kernel
theorem dl_426 : decode code 426 = .ok (.iaload, 1) := by decide +kernel
theorem dl_427 : decode code 427 = .ok (.invokevirtual 61, 3) := by decide +kernel
theorem dl_430 : decode code 430 = .ok (.if_icmp .eq 185, 3) := by decide +kernel
theorem dl_435 : decode code 435 = .ok (.aload_n 1, 1) := by decide +kernel
theorem dl_436 : decode code 436 = .ok (.invokevirtual 62, 3) := by decide +kernel
theorem dl_439 : decode code 439 = .ok (.aload_n 2, 1) := by decide +kernel
theorem dl_440 : decode code 440 = .ok (.invokevirtual 65, 3) := by decide +kernel
theorem dl_443 : decode code 443 = .ok (.if_icmp .eq 172, 3) := by decide +kernel
theorem dl_448 : decode code 448 = .ok (.aload_n 1, 1) := by decide +kernel
theorem dl_449 : decode code 449 = .ok (.aload_n 0, 1) := by decide +kernel
theorem dl_450 : decode code 450 = .ok (.iload_n 3, 1) := by decide +kernel
theorem dl_451 : decode code 451 = .ok (.iconst 1, 1) := by decide +kernel
theorem dl_452 : decode code 452 = .ok (.iadd, 1) := by decide +kernel
theorem dl_453 : decode code 453 = .ok (.iaload, 1) := by decide +kernel
theorem dl_454 : decode code 454 = .ok (.invokevirtual 66, 3) := by decide +kernel
theorem dl_457 : decode code 457 = .ok (.aload_n 2, 1) := by decide +kernel
theorem dl_458 : decode code 458 = .ok (.aload_n 0, 1) := by decide +kernel
theorem dl_459 : decode code 459 = .ok (.iload_n 3, 1) := by decide +kernel
theorem dl_460 : decode code 460 = .ok (.iconst 1, 1) := by decide +kernel
theorem dl_461 : decode code 461 = .ok (.iadd, 1) := by decide +kernel
theorem dl_462 : decode code 462 = .ok (.iaload, 1) := by decide +kernel
theorem dl_463 : decode code 463 = .ok (.invokevirtual 69, 3) := by decide +kernel
theorem dl_466 : decode code 466 = .ok (.if_icmp .eq 149, 3) := by decide +kernel
theorem dl_471 : decode code 471 = .ok (.aload_n 1, 1) := by decide +kernel
theorem dl_472 : decode code 472 = .ok (.aload_n 0, 1) := by decide +kernel
theorem dl_473 : decode code 473 = .ok (.iload_n 3, 1) := by decide +kernel
theorem dl_474 : decode code 474 = .ok (.iconst 1, 1) := by decide +kernel
theorem dl_475 : decode code 475 = .ok (.iadd, 1) := by decide +kernel
theorem dl_476 : decode code 476 = .ok (.iaload, 1) := by decide +kernel
theorem dl_477 : decode code 477 = .ok (.invokevirtual 70, 3) := by decide +kernel
theorem dl_480 : decode code 480 = .ok (.aload_n 2, 1) := by decide +kernel
theorem dl_481 : decode code 481 = .ok (.aload_n 0, 1) := by decide +kernel
theorem dl_482 : decode code 482 = .ok (.iload_n 3, 1) := by decide +kernel
theorem dl_483 : decode code 483 = .ok (.iconst 1, 1) := by decide +kernel
theorem dl_484 : decode code 484 = .ok (.iadd, 1) := by decide +kernel
theorem dl_485 : decode code 485 = .ok (.iaload, 1) := by decide +kernel
theorem dl_486 : decode code 486 = .ok (.invokevirtual 73, 3) := by decide +kernel
theorem dl_489 : decode code 489 = .ok (.if_icmp .eq 126, 3) := by decide +kernel
theorem dl_494 : decode code 494 = .ok (.aload_n 1, 1) := by decide +kernel
theorem dl_495 : decode code 495 = .ok (.invokevirtual 74, 3) := by decide +kernel
theorem dl_498 : decode code 498 = .ok (.aload_n 2, 1) := by decide +kernel
theorem dl_499 : decode code 499 = .ok (.invokevirtual 77, 3) := by decide +kernel
theorem dl_502 : decode code 502 = .ok (.if_icmp .eq 113, 3) := by decide +kernel
theorem dl_507 : decode code 507 = .ok (.aload_n 1, 1) := by decide +kernel
theorem dl_508 : decode code 508 = .ok (.invokevirtual 78, 3) := by decide +kernel
theorem dl_511 : decode code 511 = .ok (.aload_n 2, 1) := by decide +kernel
theorem dl_512 : decode code 512 = .ok (.invokevirtual 81, 3) := by decide +kernel
theorem dl_515 : decode code 515 = .ok (.if_icmp .eq 100, 3) := by decide +kernel
theorem dl_520 : decode code 520 = .ok (.aload_n 1, 1) := by decide +kernel
theorem dl_521 : decode code 521 = .ok (.aload_n 0, 1) := by decide +kernel
theorem dl_522 : decode code 522 = .ok (.iload_n 3, 1) := by decide +kernel
theorem dl_523 : decode code 523 = .ok (.iconst 1, 1) := by decide +kernel
theorem dl_524 : decode code 524 = .ok (.iadd, 1) := by decide +kernel
theorem dl_525 : decode code 525 = .ok (.iaload, 1) := by decide +kernel
theorem dl_526 : decode code 526 = .ok (.invokevirtual 82, 3) := by decide +kernel
theorem dl_529 : decode code 529 = .ok (.aload_n 2, 1) := by decide +kernel
theorem dl_530 : decode code 530 = .ok (.aload_n 0, 1) := by decide +kernel
theorem dl_531 : decode code 531 = .ok (.iload_n 3, 1) := by decide +kernel
theorem dl_532 : decode code 532 = .ok (.iconst 1, 1) := by decide +kernel
theorem dl_533 : decode code 533 = .ok (.iadd, 1) := by decide +kernel
theorem dl_534 : decode code 534 = .ok (.iaload, 1) := by decide +kernel
theorem dl_535 : decode code 535 = .ok (.invokevirtual 85, 3) := by decide +kernel
theorem dl_538 : decode code 538 = .ok (.if_icmp .eq 77, 3) := by decide +kernel
theorem dl_543 : decode code 543 = .ok (.aload_n 1, 1) := by decide +kernel
theorem dl_544 : decode code 544 = .ok (.invokevirtual 86, 3) := by decide +kernel
theorem dl_547 : decode code 547 = .ok (.aload_n 2, 1) := by decide +kernel
theorem dl_548 : decode code 548 = .ok (.invokevirtual 89, 3) := by decide +kernel
theorem dl_551 : decode code 551 = .ok (.if_icmp .eq 64, 3) := by decide +kernel
theorem dl_556 : decode code 556 = .ok (.aload_n 1, 1) := by decide +kernel
theorem dl_557 : decode code 557 = .ok (.aload_n 0, 1) := by decide +kernel
theorem dl_558 : decode code 558 = .ok (.iload_n 3, 1) := by decide +kernel
theorem dl_559 : decode code 559 = .ok (.iconst 1, 1) := by decide +kernel
theorem dl_560 : decode code 560 = .ok (.iadd, 1) := by decide +kernel
theorem dl_561 : decode code 561 = .ok (.iaload, 1) := by decide +kernel
theorem dl_562 : decode code 562 = .ok (.invokevirtual 90, 3) := by decide +kernel
theorem dl_565 : decode code 565 = .ok (.aload_n 2, 1) := by decide +kernel
theorem dl_566 : decode code 566 = .ok (.aload_n 0, 1) := by decide +kernel
theorem dl_567 : decode code 567 = .ok (.iload_n 3, 1) := by decide +kernel
theorem dl_568 : decode code 568 = .ok (.iconst 1, 1) := by decide +kernel
theorem dl_569 : decode code 569 = .ok (.iadd, 1) := by decide +kernel
theorem dl_570 : decode code 570 = .ok (.iaload, 1) := by decide +kernel
theorem dl_571 : decode code 571 = .ok (.invokevirtual 93, 3) := by decide +kernel
theorem dl_574 : decode code 574 = .ok (.if_icmp .eq 41, 3) := by decide +kernel
theorem dl_579 : decode code 579 = .ok (.aload_n 1, 1) := by decide +kernel
theorem dl_580 : decode code 580 = .ok (.aload_n 0, 1) := by decide +kernel
theorem dl_581 : decode code 581 = .ok (.iload_n 3, 1) := by decide +kernel
theorem dl_582 : decode code 582 = .ok (.iconst 1, 1) := by decide +kernel
theorem dl_583 : decode code 583 = .ok (.iadd, 1) := by decide +kernel
theorem dl_584 : decode code 584 = .ok (.iaload, 1) := by decide +kernel
theorem dl_585 : decode code 585 = .ok (.invokevirtual 94, 3) := by decide +kernel
theorem dl_588 : decode code 588 = .ok (.aload_n 2, 1) := by decide +kernel
theorem dl_589 : decode code 589 = .ok (.aload_n 0, 1) := by decide +kernel
theorem dl_590 : decode code 590 = .ok (.iload_n 3, 1) := by decide +kernel
theorem dl_591 : decode code 591 = .ok (.iconst 1, 1) := by decide +kernel
theorem dl_592 : decode code 592 = .ok (.iadd, 1) := by decide +kernel
theorem dl_593 : decode code 593 = .ok (.iaload, 1) := by decide +kernel
theorem dl_594 : decode code 594 = .ok (.invokevirtual 97, 3) := by decide +kernel
theorem dl_597 : decode code 597 = .ok (.if_icmp .eq 18, 3) := by decide +kernel
theorem dl_602 : decode code 602 = .ok (.aload_n 1, 1) := by decide +kernel
theorem dl_603 : decode code 603 = .ok (.invokevirtual 98, 3) := by decide +kernel
theorem dl_606 : decode code 606 = .ok (.aload_n 2, 1) := by decide +kernel
theorem dl_607 : decode code 607 = .ok (.invokevirtual 101, 3) := by decide +kernel
theorem dl_610 : decode code 610 = .ok (.if_icmp .eq 5, 3) := by decide +kernel
theorem dl_615 : decode code 615 = .ok (.iinc 3 6, 3) := by decide +kernel
theorem dl_618 : decode code 618 = .ok (.goto (-600), 3) := by decide +kernel
theorem dl_621 : decode code 621 = .ok (.iconst 1, 1) := by decide +kernel
theorem dl_622 : decode code 622 = .ok (.ireturn, 1) := by decide +kernel
abbrev wAll (cy : Nat → ClassId) (u v : Nat → Nat) : va_W := [((u 0), .inr (12, (oLU u))), ((u 1), .inl (cy 0, 16000, .inl (fun _ => 0))), ((u 2), .inr (10, (oTok u))), ((u 13), .inl (cy 1, 16002, .inl (fun _ => 0))), ((u 14), .inl (cy 1, 16002, .inl (fun _ => 0))), ((u 15), .inl (cy 1, 16002, .inl (fun _ => 0))), ((u 16), .inl (cy 1, 16002, .inl (fun _ => 0))), ((u 3), .inr (3, (oGra u))), ((u 4), .inr (0, (oCod u))), ((u 5), .inr (8, (oSto u))), ((u 25), .inl (cy 1, 10100, .inl sFl)), ((u 29), .inl (cy 1, 10100, .inl sNe)), ((u 30), .inl (cy 0, 65600, .inl sNm)), ((u 34), .inl (cy 1, 101, .inl sDe)), ((u 35), .inl (cy 1, 101, .inl (fun _ => 0))), ((u 36), .inl (cy 1, 101, .inl (fun _ => 0))), ((u 37), .inl (cy 1, 101, .inl (fun _ => 0))), ((u 6), .inr (11, (oUni u))), ((u 7), .inr (2, (oExp u))), ((u 8), .inr (1, (oDec u))), ((u 9), .inr (7, (oSta u))), ((u 10), .inr (4, (oIma u))), ((u 55), .inl (cy 0, 4, .inl sMa)), ((u 56), .inl (cy 1, 101, .inl (fun _ => 0))), ((u 11), .inr (9, (oTap u))), ((u 60), .inl (cy 0, 4096, .inl (fun _ => 0))), ((u 12), .inr (5, (oMac u))), ((u 62), .inl (cy 1, 32768, .inl (fun _ => 0))), ((v 0), .inr (13, (oMo v))), ((v 1), .inl (cy 0, 16000, .inl (fun _ => 0))), ((v 4), .inl (cy 1, 16002, .inl (fun _ => 0))), ((v 5), .inl (cy 1, 16002, .inl (fun _ => 0))), ((v 6), .inl (cy 1, 16002, .inl (fun _ => 0))), ((v 7), .inl (cy 1, 16002, .inl (fun _ => 0))), ((v 8), .inl (cy 1, 16002, .inl (fun _ => 0))), ((v 33), .inl (cy 1, 102, .inl (fun _ => 0))), ((v 35), .inl (cy 1, 102, .inl (fun _ => 0))), ((v 34), .inl (cy 1, 102, .inl (fun _ => 0))), ((v 88), .inl (cy 0, 4096, .inl (fun _ => 0)))]
def R_law : String := "LinkedUnitsLaw"
def lw_P (b : Addr) (xs : List Int32) (args : Array Value) (s : State) : Prop := args = #[.ref b] ∧ s.IntsAt b xs ∧ xs.length ≤ 6 ∧ (Jvm.Cond.and given_1 narrow_1).before args s = true
def lw_Q (_ : Array Value) (s : State) (o : Outcome) (t : State) : Prop := o = .returned (some (.int 1)) ∧ Framed s o t [] 600002 7302232
def lw_Z (below : List Frame) (a : Array Value) (s : State) : State → Prop := fun t => ∃ o, t.status = .running ∧ Ended t below o ∧ lw_Q a s o t
/-- the law's own end, with 1 on the stack, nothing written that was there before, its room as the claim has it -/
theorem lw_ret {p : Program} {l : Launch} {e : Env} {s : State} {m : MethodId} {below : List Frame} {meth : Method} {c : Code} {b : Nat} (hx : p.tables.exec = Jvm.exec) (hb : c.code = code) (hr : meth.sig.returnType = ret) (hlocks : meth.locks = false) {pc : Nat} {H : Heap} {ls : Array Slot} (hdg : decode code pc = .ok (.ireturn, 1)) : W p l e room_1 s m #[Value.ref b] below meth c H [] 600002 7302232 (lw_Z below #[Value.ref b] s) (F0 m pc ls [.int 1]) := by
  intro T hT X
  obtain ⟨fs, hret, hrun, hended, hW, hframe⟩ := X.leave (v := some (.int 1)) (hlocks := hlocks) (fun h => by rw [hr] at h; cases h)
  have hmeth' : T.vm.method? m = some meth := X.method'
  refine ⟨T.setFrames fs, ?_, .returned (some (.int 1)), hrun, hended, rfl, ⟨_, rfl⟩, hW, hframe⟩
  jvm_step X.here [X.here.top, hx, hb, hdg, hmeth', hr, ret, narrow_b1]
  (try refine ⟨rfl, ?_⟩); (try refine ⟨rfl, ?_⟩)
  first | (intro acts; rw [hret _ acts rfl rfl rfl]) | rw [hret _ _ rfl rfl rfl]
  exact Steps.refl _
/-- what holds at the law's entry: the machine, the code, the tables' words (any of lw_tbl by 'hts w (by decide +kernel)'), the script of L ints xs at the cell b, what the Statement gives of the start (any of its parts by flat_of_before) -/
def lw_At (p : Program) (s : State) (m : MethodId) (meth : Method) (c : Code) (b L : Nat) (xs : Nat → Int32) : Prop :=
  p.tables.exec = Jvm.exec ∧ c.code = code ∧ meth.sig.returnType = ret ∧ c.maxLocals = 4 ∧ s.vm.findClass R_law = some m.cls ∧ (∀ w ∈ lw_tbl, w.before #[Value.ref b] s = true) ∧ va_X b L xs s s.heap ∧ b < s.heap.size ∧ meth.locks = false ∧ (Jvm.Cond.and given_1 narrow_1).before #[Value.ref b] s = true
