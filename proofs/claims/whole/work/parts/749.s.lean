/-! the law's loop -/
section S79
variable {l : Launch}
set_option maxRecDepth 20000 in
theorem law_loop (hText : ∀ {M : o_M} {nw np ns nt T : Nat}, Rel M nw np ns nt T → T < 2 ^ 30 → K_X11_text l [rV (some 16)] M (fun r1 M1 => K_X12_text l [rV (some 60)] M1 (fun r2 M2 => r1 = r2 ∧ Nx T M2))) {L : Nat} (hL : L ≤ 2560) (xs : Nat → Int32) : ∀ m n, n + m = 514 → ∀ kk nn M, kk ≤ 85 + 4 * n → nn ≤ 32305 + 906 * n → Nx n M → 5 * n ≤ L + 5 → H_L_law_18 l (some (L, xs)) (fun r _ => r = 1) (nI (5 * n)) kk nn M := by
  intro m
  induction m with
  | zero =>
    intro n hn kk nn M hk hnn hNx h5
    omega
  | succ m ih =>
    intro n hn kk nn M hk hnn hNx h5
    obtain ⟨nw, np, ns, nt, T, hT1, r⟩ := hNx
    have hT : T < 2 ^ 30 := by omega
    have e5 : (Int32.ofNat L - 5).toInt = (L : Int) - 5 := by
      have := pk_sub_toInt (a := L) (b := 5) (by omega) (by decide)
      exact this
    have ei : (nI (5 * n)).toInt = ((5 * n : Nat) : Int) := nI_toInt (by omega)
    refine w_L_law_18 l L xs _ _ _ _ M ⟨fun _ => ⟨by omega, by omega, rfl⟩, fun z => ?_⟩
    rw [ilt, e5, ei] at z
    have hin : 5 * n + 5 ≤ L := by omega
    have v0 : vp_in (nI (5 * n)) L := vin (by omega) (by omega)
    have v1 : vp_in (nI (5 * n) + 1) L := by rw [show (1 : Int32) = nI 1 from rfl, nI_add]; exact vin (by omega) (by omega)
    have v2 : vp_in (nI (5 * n) + 2) L := by rw [show (2 : Int32) = nI 2 from rfl, nI_add]; exact vin (by omega) (by omega)
    have v3 : vp_in (nI (5 * n) + 3) L := by rw [show (3 : Int32) = nI 3 from rfl, nI_add]; exact vin (by omega) (by omega)
    have v4 : vp_in (nI (5 * n) + 4) L := by rw [show (4 : Int32) = nI 4 from rfl, nI_add]; exact vin (by omega) (by omega)
    have cont : ∀ kk' nn' M2, kk' ≤ kk + 4 → nn' ≤ nn + 906 → Nx T M2 → H_L_law_1219 l (some (L, xs)) (fun r _ => r = 1) (nI (5 * n)) kk' nn' M2 := by
      intro kk' nn' M2 h1 h2 hN
      refine w_L_law_1219 l L xs _ _ _ _ M2 ?_
      rw [show (5 : Int32) = nI 5 from rfl, nI_add, show 5 * n + 5 = 5 * (n + 1) by omega]
      refine ih (n + 1) (by omega) kk' nn' M2 (by omega) (by omega) ?_ (by omega)
      obtain ⟨a, b, c, d, T', hT', r'⟩ := hN
      exact ⟨a, b, c, d, T', by omega, r'⟩
    refine ⟨v0, fun _ => cont _ _ M (by omega) (by omega) (Nx_s r), ?_, ?_, ?_, ?_, ?_, ?_, ?_, ?_, ?_, ?_, ?_, ?_, ?_, ?_, ?_, ?_, ?_, ?_, ?_, ?_, ?_, ?_, ?_, ?_, ?_, ?_, ?_, ?_, ?_⟩
    · exact fun _ => w_L_law_164 l L xs _ _ _ _ M ⟨v1, v2, v3, by omega, by omega, Ctr.mono (P_work r _ _ _) (fun v M' h => by obtain ⟨x, ex, h⟩ := h; exact ⟨x, ex, v1, v2, v3, by omega, by omega, Ctr.mono h (fun v2 M2 h2 => by obtain ⟨x2, ex2, e, hn⟩ := h2; exact ⟨x2, ex2, fun _ => cont _ _ M2 (by omega) (by omega) hn, fun ne => absurd e ne⟩)⟩)⟩
    · exact fun _ => w_L_law_207 l L xs _ _ _ _ M ⟨v1, v2, v3, v4, by omega, by omega, Ctr.mono (P_score r _ _ _ _) (fun v M' h => by obtain ⟨x, ex, h⟩ := h; exact ⟨x, ex, v1, v2, v3, v4, by omega, by omega, Ctr.mono h (fun v2 M2 h2 => by obtain ⟨x2, ex2, e, hn⟩ := h2; exact ⟨x2, ex2, fun _ => cont _ _ M2 (by omega) (by omega) hn, fun ne => absurd e ne⟩)⟩)⟩
    · exact fun _ => w_L_law_260 l L xs _ _ _ _ M ⟨v1, v2, v3, by omega, by omega, Ctr.mono (P_player r _ _ _) (fun v M' h => by obtain ⟨x, ex, h⟩ := h; exact ⟨x, ex, v1, v2, v3, by omega, by omega, Ctr.mono h (fun v2 M2 h2 => by obtain ⟨x2, ex2, e, hn⟩ := h2; exact ⟨x2, ex2, fun _ => cont _ _ M2 (by omega) (by omega) hn, fun ne => absurd e ne⟩)⟩)⟩
    · exact fun _ => w_L_law_303 l L xs _ _ _ _ M ⟨v1, v2, v3, by omega, by omega, Ctr.mono (P_leave r _ _ _) (fun v M' h => by obtain ⟨x, ex, h⟩ := h; exact ⟨x, ex, v1, v2, v3, by omega, by omega, Ctr.mono h (fun v2 M2 h2 => by obtain ⟨x2, ex2, e, hn⟩ := h2; exact ⟨x2, ex2, fun _ => cont _ _ M2 (by omega) (by omega) hn, fun ne => absurd e ne⟩)⟩)⟩
    · exact fun _ => w_L_law_346 l L xs _ _ _ _ M ⟨v1, v2, v3, v4, by omega, by omega, Ctr.mono (P_service r _ _ _ _) (fun v M' h => by obtain ⟨x, ex, h⟩ := h; exact ⟨x, ex, v1, v2, v3, v4, by omega, by omega, Ctr.mono h (fun v2 M2 h2 => by obtain ⟨x2, ex2, e, hn⟩ := h2; exact ⟨x2, ex2, fun _ => cont _ _ M2 (by omega) (by omega) hn, fun ne => absurd e ne⟩)⟩)⟩
    · exact fun _ => w_L_law_399 l L xs _ _ _ _ M ⟨v1, v2, by omega, by omega, Ctr.mono (P_call r _ _) (fun v M' h => by obtain ⟨x, ex, h⟩ := h; exact ⟨x, ex, v1, v2, by omega, by omega, Ctr.mono h (fun v2 M2 h2 => by obtain ⟨x2, ex2, e, hn⟩ := h2; exact ⟨x2, ex2, fun _ => cont _ _ M2 (by omega) (by omega) hn, fun ne => absurd e ne⟩)⟩)⟩
    · exact fun _ => w_L_law_432 l L xs _ _ _ _ M ⟨v1, v2, by omega, by omega, Ctr.mono (P_workTold r _ _) (fun v M' h => by obtain ⟨x, ex, h⟩ := h; exact ⟨x, ex, v1, v2, by omega, by omega, Ctr.mono h (fun v2 M2 h2 => by obtain ⟨x2, ex2, e, hn⟩ := h2; exact ⟨x2, ex2, fun _ => cont _ _ M2 (by omega) (by omega) hn, fun ne => absurd e ne⟩)⟩)⟩
    · exact fun _ => w_L_law_465 l L xs _ _ _ _ M ⟨v1, v2, by omega, by omega, Ctr.mono (P_played r _ _) (fun v M' h => by obtain ⟨x, ex, h⟩ := h; exact ⟨x, ex, v1, v2, by omega, by omega, Ctr.mono h (fun v2 M2 h2 => by obtain ⟨x2, ex2, e, hn⟩ := h2; exact ⟨x2, ex2, fun _ => cont _ _ M2 (by omega) (by omega) hn, fun ne => absurd e ne⟩)⟩)⟩
    · exact fun _ => w_L_law_498 l L xs _ _ _ _ M ⟨v1, v2, by omega, by omega, Ctr.mono (P_playerTold r _ _) (fun v M' h => by obtain ⟨x, ex, h⟩ := h; exact ⟨x, ex, v1, v2, by omega, by omega, Ctr.mono h (fun v2 M2 h2 => by obtain ⟨x2, ex2, e, hn⟩ := h2; exact ⟨x2, ex2, fun _ => cont _ _ M2 (by omega) (by omega) hn, fun ne => absurd e ne⟩)⟩)⟩
    · exact fun _ => w_L_law_531 l L xs _ _ _ _ M ⟨v1, v2, by omega, by omega, Ctr.mono (P_serviceTold r _ _) (fun v M' h => by obtain ⟨x, ex, h⟩ := h; exact ⟨x, ex, v1, v2, by omega, by omega, Ctr.mono h (fun v2 M2 h2 => by obtain ⟨x2, ex2, e, hn⟩ := h2; exact ⟨x2, ex2, fun _ => cont _ _ M2 (by omega) (by omega) hn, fun ne => absurd e ne⟩)⟩)⟩
    · exact fun _ => w_L_law_564 l L xs _ _ _ _ M ⟨v1, v2, v3, by omega, by omega, Ctr.mono (P_feed r _ _) (fun v M' h => by obtain ⟨x, ex, h⟩ := h; exact ⟨x, ex, v1, v2, v3, by omega, by omega, Ctr.mono h (fun v2 M2 h2 => by obtain ⟨x2, ex2, e, hn⟩ := h2; exact ⟨x2, ex2, fun _ => cont _ _ M2 (by omega) (by omega) hn, fun ne => absurd e ne⟩)⟩)⟩
    · exact fun _ => w_L_law_627 l L xs _ _ _ _ M ⟨by omega, by omega, Ctr.mono (hText r hT) (fun v M' h => by obtain ⟨x, ex, h⟩ := h; exact ⟨x, ex, by omega, by omega, Ctr.mono h (fun v2 M2 h2 => by obtain ⟨x2, ex2, e, hn⟩ := h2; exact ⟨x2, ex2, fun _ => cont _ _ M2 (by omega) (by omega) hn, fun ne => absurd e ne⟩)⟩)⟩
    · exact fun _ => w_L_law_640 l L xs _ _ _ _ M ⟨v1, v2, by omega, by omega, Ctr.mono (P_force r _ _) (fun v M' h => by obtain ⟨x, ex, h⟩ := h; exact ⟨x, ex, v1, v2, by omega, by omega, Ctr.mono h (fun v2 M2 h2 => by obtain ⟨x2, ex2, e, hn⟩ := h2; exact ⟨x2, ex2, fun _ => cont _ _ M2 (by omega) (by omega) hn, fun ne => absurd e ne⟩)⟩)⟩
    · exact fun _ => w_L_law_673 l L xs _ _ _ _ M ⟨v1, by omega, by omega, Ctr.mono (P_inForce r hT _) (fun v M' h => by obtain ⟨x, ex, h⟩ := h; exact ⟨x, ex, v1, by omega, by omega, Ctr.mono h (fun v2 M2 h2 => by obtain ⟨x2, ex2, e, hn⟩ := h2; exact ⟨x2, ex2, fun _ => cont _ _ M2 (by omega) (by omega) hn, fun ne => absurd e ne⟩)⟩)⟩
    · exact fun _ => w_L_law_696 l L xs _ _ _ _ M ⟨v1, v2, v3, by omega, by omega, Ctr.mono (P_may r hT _ _ _) (fun v M' h => by obtain ⟨x, ex, h⟩ := h; exact ⟨x, ex, v1, v2, v3, by omega, by omega, Ctr.mono h (fun v2 M2 h2 => by obtain ⟨x2, ex2, e, hn⟩ := h2; exact ⟨x2, ex2, fun _ => cont _ _ M2 (by omega) (by omega) hn, fun ne => absurd e ne⟩)⟩)⟩
    · exact fun _ => w_L_law_739 l L xs _ _ _ _ M ⟨v1, v2, v3, v4, by omega, by omega, Ctr.mono (P_worth r hT _ _ _ _) (fun v M' h => by obtain ⟨x, ex, h⟩ := h; exact ⟨x, ex, v1, v2, v3, v4, by omega, by omega, Ctr.mono h (fun v2 M2 h2 => by obtain ⟨x2, ex2, e, hn⟩ := h2; exact ⟨x2, ex2, fun _ => cont _ _ M2 (by omega) (by omega) hn, fun ne => absurd ((lg_cmp_eq _ _).mpr e) ne⟩)⟩)⟩
    · exact fun _ => w_L_law_793 l L xs _ _ _ _ M ⟨v1, by omega, by omega, Ctr.mono (P_gaps r hT _) (fun v M' h => by obtain ⟨x, ex, h⟩ := h; exact ⟨x, ex, v1, by omega, by omega, Ctr.mono h (fun v2 M2 h2 => by obtain ⟨x2, ex2, e, hn⟩ := h2; exact ⟨x2, ex2, fun _ => cont _ _ M2 (by omega) (by omega) hn, fun ne => absurd e ne⟩)⟩)⟩
    · exact fun _ => w_L_law_816 l L xs _ _ _ _ M ⟨v1, v2, v3, fun y => ⟨by omega, by omega, Ctr.mono (P_chair r hT _ _ _) (fun v M' h => by obtain ⟨x, ex, h⟩ := h; exact ⟨x, ex, v1, v2, v3, fun _ => ⟨by omega, by omega, Ctr.mono h (fun v2 M2 h2 => by obtain ⟨x2, ex2, e, hn⟩ := h2; exact ⟨x2, ex2, fun _ => cont _ _ M2 (by omega) (by omega) hn, fun ne => absurd e ne⟩)⟩, fun ny => absurd y ny⟩)⟩, fun y => ⟨by omega, by omega, Ctr.mono (P_chair r hT _ _ _) (fun v M' h => by obtain ⟨x, ex, h⟩ := h; exact ⟨x, ex, v1, v2, v3, fun ny => absurd ny y, fun _ => ⟨by omega, by omega, Ctr.mono h (fun v2 M2 h2 => by obtain ⟨x2, ex2, e, hn⟩ := h2; exact ⟨x2, ex2, fun _ => cont _ _ M2 (by omega) (by omega) hn, fun ne => absurd e ne⟩)⟩⟩)⟩⟩
    · exact fun _ => w_L_law_875 l L xs _ _ _ _ M ⟨v1, by omega, by omega, Ctr.mono (P_seat r hT _) (fun v M' h => by obtain ⟨x, ex, h⟩ := h; exact ⟨x, ex, v1, by omega, by omega, Ctr.mono h (fun v2 M2 h2 => by obtain ⟨x2, ex2, e, hn⟩ := h2; exact ⟨x2, ex2, fun _ => cont _ _ M2 (by omega) (by omega) hn, fun ne => absurd e ne⟩)⟩)⟩
    · exact fun _ => w_L_law_898 l L xs _ _ _ _ M ⟨v1, by omega, by omega, Ctr.mono (P_rise r _) (fun v M' h => by obtain ⟨x, ex, h⟩ := h; exact ⟨x, ex, v1, by omega, by omega, Ctr.mono h (fun v2 M2 h2 => by obtain ⟨x2, ex2, e, hn⟩ := h2; exact ⟨x2, ex2, fun _ => cont _ _ M2 (by omega) (by omega) hn, fun ne => absurd e ne⟩)⟩)⟩
    · exact fun _ => w_L_law_921 l L xs _ _ _ _ M ⟨v1, v2, v3, v4, by omega, by omega, Ctr.mono (P_due r hT _ _ _ _) (fun v M' h => by obtain ⟨x, ex, h⟩ := h; exact ⟨x, ex, v1, v2, v3, v4, by omega, by omega, Ctr.mono h (fun v2 M2 h2 => by obtain ⟨x2, ex2, e, hn⟩ := h2; exact ⟨x2, ex2, fun _ => cont _ _ M2 (by omega) (by omega) hn, fun ne => absurd ((lg_cmp_eq _ _).mpr e) ne⟩)⟩)⟩
    · exact fun _ => w_L_law_975 l L xs _ _ _ _ M ⟨v1, by omega, by omega, Ctr.mono (P_waits r _) (fun v M' h => by obtain ⟨x, ex, h⟩ := h; exact ⟨x, ex, v1, by omega, by omega, Ctr.mono h (fun v2 M2 h2 => by obtain ⟨x2, ex2, e, hn⟩ := h2; exact ⟨x2, ex2, fun _ => cont _ _ M2 (by omega) (by omega) hn, fun ne => absurd e ne⟩)⟩)⟩
    · exact fun _ => w_L_law_998 l L xs _ _ _ _ M ⟨v1, v2, by omega, by omega, Ctr.mono (P_order r _ _) (fun v M' h => by obtain ⟨x, ex, h⟩ := h; exact ⟨x, ex, v1, v2, by omega, by omega, Ctr.mono h (fun v2 M2 h2 => by obtain ⟨x2, ex2, e, hn⟩ := h2; exact ⟨x2, ex2, fun _ => cont _ _ M2 (by omega) (by omega) hn, fun ne => absurd e ne⟩)⟩)⟩
    · exact fun _ => w_L_law_1031 l L xs _ _ _ _ M ⟨v1, v2, v3, by omega, by omega, Ctr.mono (P_programme r _ _ _) (fun v M' h => by obtain ⟨x, ex, h⟩ := h; exact ⟨x, ex, v1, v2, v3, by omega, by omega, Ctr.mono h (fun v2 M2 h2 => by obtain ⟨x2, ex2, e, hn⟩ := h2; exact ⟨x2, ex2, fun _ => cont _ _ M2 (by omega) (by omega) hn, fun ne => absurd e ne⟩)⟩)⟩
    · exact fun _ => w_L_law_1074 l L xs _ _ _ _ M ⟨v1, by omega, by omega, Ctr.mono (P_price r _) (fun v M' h => by obtain ⟨x, ex, h⟩ := h; exact ⟨x, ex, v1, by omega, by omega, Ctr.mono h (fun v2 M2 h2 => by obtain ⟨x2, ex2, e, hn⟩ := h2; exact ⟨x2, ex2, fun _ => cont _ _ M2 (by omega) (by omega) hn, fun ne => absurd e ne⟩)⟩)⟩
    · exact fun _ => w_L_law_1097 l L xs _ _ _ _ M ⟨v1, by omega, by omega, Ctr.mono (P_count r _) (fun v M' h => by obtain ⟨x, ex, h⟩ := h; exact ⟨x, ex, v1, by omega, by omega, Ctr.mono h (fun v2 M2 h2 => by obtain ⟨x2, ex2, e, hn⟩ := h2; exact ⟨x2, ex2, fun _ => cont _ _ M2 (by omega) (by omega) hn, fun ne => absurd e ne⟩)⟩)⟩
    · exact fun _ => w_L_law_1120 l L xs _ _ _ _ M ⟨v1, v2, v3, by omega, by omega, Ctr.mono (P_put r hT _ _ _) (fun v M' h => by obtain ⟨x, ex, h⟩ := h; exact ⟨x, ex, v1, v2, v3, by omega, by omega, Ctr.mono h (fun v2 M2 h2 => by obtain ⟨x2, ex2, e, hn⟩ := h2; exact ⟨x2, ex2, fun _ => cont _ _ M2 (by omega) (by omega) hn, fun ne => absurd e ne⟩)⟩)⟩
    · exact fun _ => w_L_law_1163 l L xs _ _ _ _ M ⟨v1, v2, v3, by omega, by omega, Ctr.mono (P_forge r _ _ _) (fun v M' h => by obtain ⟨x, ex, h⟩ := h; exact ⟨x, ex, v1, v2, v3, by omega, by omega, Ctr.mono h (fun v2 M2 h2 => by obtain ⟨x2, ex2, e, hn⟩ := h2; exact ⟨x2, ex2, fun _ => cont _ _ M2 (by omega) (by omega) hn, fun ne => absurd e ne⟩)⟩)⟩
    · exact fun _ => w_L_law_1206 l L xs _ _ _ _ M ⟨by omega, by omega, Ctr.mono (P_status r) (fun v M' h => by obtain ⟨x, ex, h⟩ := h; exact ⟨x, ex, by omega, by omega, Ctr.mono h (fun v2 M2 h2 => by obtain ⟨x2, ex2, e, hn⟩ := h2; exact ⟨x2, ex2, fun _ => cont _ _ M2 (by omega) (by omega) hn, fun ne => absurd e ne⟩)⟩)⟩
end S79
