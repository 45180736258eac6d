/-! the reference: initials in { }, whole -/
section BRW
variable {w s r s8 s9 σ σ' σ1 τ t : St} {kd vl : Nat → Int} {n S m lo d cnt p q pc p1 : Nat} {vs z : List Nat} {loc ok : Prop} {gc : List Gsq} {l : List Stq} {a1 a2 a3 a4 a5 : Int32} {F0 : Prop} {ty : Int}
theorem ir_nil2 (h : DDq σ σ') (e12 : σ' 0 12 = σ 0 12) : IRq kd n S m lo loc ty [] σ σ' 0 True := fun h0 w hR hf h77 h11 h9 h15 h16 =>
  ⟨fun hx => absurd hf hx, fun _ => ⟨by rw [e12]; exact h0, re_cd hR cd_rf h, h77, ko_rf, h15, ⟨fun hx => absurd h16 hx, fun h => h.elim (fun h => absurd trivial h) (fun h => absurd h.1 (by decide))⟩⟩⟩
theorem ir_ref (hw : IRq kd n S m lo loc ty gc σ σ1 cnt ok) (h : DDq σ1 σ') (e12 : σ' 0 12 = σ1 0 12) : IRq kd n S m lo loc ty gc σ σ' cnt ok := fun h0 w hR hf h77 h11 h9 h15 h16 => by
  rw [e12]
  refine gv_mono (hw h0 w hR hf h77 h11 h9 h15 h16) (fun s hs => ⟨hs.1, fun c => ?_⟩) id
  obtain ⟨k1, k2, k3⟩ := hs.2 c
  exact ⟨k1, re_cd k2 cd_rf h, k3⟩
end BRW
