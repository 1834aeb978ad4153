/-! specs of the model: names of a text -/
section S12e
variable {l : Launch} {M : o_M}
/-- what a name means for a service, a player, an instrument -/
def f_named (v : o_v) (n : Nat) (name : Int32) (s p : Nat) (i : Int32) : Int32 :=
  if name = 0 then v 76 s else if name = 1 then v 77 s - v 77 s / 7 * 7 else if name = 2 then v 78 s else if name = 3 then v 79 s else if name = 4 then i
  else if name = 5 then v 69 p else if name = 6 then (if i = v 69 p then 0 else 1) else if name = 7 then v 71 p else if name = 8 then f_week v s (nI p) n else f_rest v s (nI p) n
theorem c12_named (hw : wM M) {s p n : Nat} (hs : s < 40) (hp : p < 10) (hn : mI M 60 14 = nI n) (hn40 : n ≤ 40) (name i : Int32) (q : Int32 → o_M → Prop) (h : q (f_named (mI M) n name s p i) M) : K_X12_named l [rV (some 60), iV name, iV (nI s), iV (nI p), iV i] M q := by
  have hcs : (nI s).toNatClampNeg = s := nI_clamp (by omega)
  have hcp : (nI p).toNatClampNeg = p := nI_clamp (by omega)
  have v40 : vp_in (nI s) 40 := vin hs (by decide)
  have v10 : vp_in (nI p) 10 := vin hp (by decide)
  unfold f_named at h
  refine w_X12_named l _ _ _ _ M q ⟨fun c => ?_, fun c => ?_, fun c => ?_, fun c => ?_, fun c => ?_, fun c => ?_, fun c => ?_, fun c => ?_, fun c => ?_, fun c => ?_⟩
  · have hne : ∀ k : Int32, 0 ≤ k.toInt → k.toInt ≤ 8 → ¬ name = k := fun k h1 h2 z => by
      rw [z, ilt, ilt] at c
      have e8 : (8 : Int32).toInt = 8 := by decide
      have e0 : (0 : Int32).toInt = 0 := by decide
      omega
    rw [if_neg (hne 0 (by decide) (by decide)), if_neg (hne 1 (by decide) (by decide)), if_neg (hne 2 (by decide) (by decide)), if_neg (hne 3 (by decide) (by decide)), if_neg (hne 4 (by decide) (by decide)), if_neg (hne 5 (by decide) (by decide)), if_neg (hne 6 (by decide) (by decide)), if_neg (hne 7 (by decide) (by decide)), if_neg (hne 8 (by decide) (by decide))] at h
    exact c12_rest hw hs hn hn40 _ _ h
  all_goals subst c
  · rw [hcs, wn15 hw]; exact ⟨wr15 hw, v40, h⟩
  · rw [hcs, wn16 hw]; exact ⟨wr16 hw, v40, h⟩
  · rw [hcs, wn17 hw]; exact ⟨wr17 hw, v40, h⟩
  · rw [hcs, wn18 hw]; exact ⟨wr18 hw, v40, h⟩
  · exact h
  · rw [hcp, wn8 hw]; exact ⟨wr8 hw, v10, h⟩
  · rw [hcp, wn8 hw]
    refine ⟨wr8 hw, v10, fun c => ?_, fun c => ?_⟩
    · have h : q (if i = mI M 69 p then 0 else 1) M := h
      rw [if_pos c] at h; exact h
    · have h : q (if i = mI M 69 p then 0 else 1) M := h
      rw [if_neg c] at h; exact h
  · rw [hcp, wn10 hw]; exact ⟨wr10 hw, v10, h⟩
  · exact c12_week hw hs hn hn40 _ _ h
end S12e
