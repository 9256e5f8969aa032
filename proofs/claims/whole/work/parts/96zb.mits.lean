-- all the items, in the reference
theorem hI_inj {x y : Nat} (hx : x < 5) (hy : y < 5) (h : hI x = hI y) : x = y := by
  unfold hI at h
  by_cases c1 : x = 4
  · by_cases c2 : y = 4
    · omega
    · rw [if_pos c1, if_neg c2] at h; exact absurd h.symm (ofNat_ne_m1 (by omega))
  · by_cases c2 : y = 4
    · rw [if_neg c1, if_pos c2] at h; exact absurd h (ofNat_ne_m1 (by omega))
    · rw [if_neg c1, if_neg c2, eq_ofNat (by omega) (by omega)] at h; exact h
def MIs (al : Nat → Int32) (S0 S : St) (b : Nat → Nat) (n : Nat) (s : PS) : Prop := MIp al S0 S b n s.1 s.2.1 s.2.2.1 s.2.2.2.1 s.2.2.2.2.1 s.2.2.2.2.2.1 s.2.2.2.2.2.2
theorem its58_m {al : Nat → Int32} {S0 S : St} {b : Nat → Nat} {n c d F : Nat} {P : Int32} {g : CT} {hu re : Nat → Nat} {k0 : Nat → St → Option (Unit × St)} {Q : Unit → St → Prop} (hm : MU al S0 S b n c F P) (hDc : d + 1 ≤ c) (h14 : sI S 32 14 = Int32.ofNat (d + 1)) (hk : HK S d) (hA : F = 0 → MA S d g hu re) (hQ : ∀ S', MIp al S0 S' b n (tN b n c) d F P g hu re → Rn (k0 32 S') Q) : Rn (fX12_items_58 k0 32 S) Q := by
  have hn := tN_b (b := b) hm.2.2.1
  have hp := tP_b (b := b) hm.2.2.1
  have e1 : Int32.ofNat (d + 1) - 1 = Int32.ofNat d := by rw [show (1 : Int32) = Int32.ofNat 1 from rfl, sub_of (by omega)]; rfl
  unfold fX12_items_58
  refine w_gIe hm.2.1.k h14 (w_pI hm.2.1.k ?_)
  rw [e1]
  have m1 := (FZ.d14 (S := S) (Int32.ofNat d)).mu hm
  refine w_ck m1.2.1.k (w_clr (mstep_m m1) ?_)
  rintro _ S2 ⟨f2, m2⟩
  refine hQ S2 ⟨m2, by omega, f2.d st_get, f2.hk (fun l q1 q2 => ?_), fun z => f2.ma ?_⟩
  · rw [st_ne (Or.inl (by decide))]; exact hk l q1 q2
  · obtain ⟨a1, a2, a3, a4⟩ := hA z
    refine ⟨a1, a2, fun l hl => ?_, fun l q1 q2 => ?_⟩
    · rw [st_ne (Or.inl (by decide))]; exact a3 l hl
    · rw [st_ne (Or.inl (by decide))]; exact a4 l q1 q2
theorem cls_m {al : Nat → Int32} {S0 S : St} {b : Nat → Nat} {n c d F : Nat} {P : Int32} {g : CT} {hu re : Nat → Nat} {k0 : Nat → St → Option (Unit × St)} {Q : Unit → St → Prop} (h : MIp al S0 S b n c (d + 1) F P g hu re) (hQ : ∀ S', PM al S0 S' b n (clsI b n c d F P g hu re) → Rn (k0 32 S') Q) : Rn ((gI 13 32 14 fun v2003 => br (7 ≤ v2003) (fX12_items_58 k0 32) (ck 13 32 <| cl (fX12_closes 32) fun _ => fX12_items_58 k0 32)) S) Q := by
  obtain ⟨hm, hDc, h14, hk, hA⟩ := id h
  have hc := hm.2.2.1
  have h400 := hm.2.1.2.2.1
  refine w_gIe hm.2.1.k h14 (w_br (fun q => ?_) (fun q => ?_))
  · rw [show (7 : Int32) = Int32.ofNat 7 from rfl, le_ofNat (by omega) (by omega)] at q
    refine its58_m hm hDc h14 (fun l q1 q2 => hk l (by omega) q2) (fun z => ?_) (fun S' m => hQ S' (PM_t m))
    have := (hA z).1
    omega
  · rw [show (7 : Int32) = Int32.ofNat 7 from rfl, le_ofNat (by omega) (by omega)] at q
    obtain ⟨h, h5, eh⟩ := hk d (by omega) (by omega)
    obtain ⟨hd, hd5, ehd⟩ := hk (d + 1) (by omega) (by omega)
    have hEq : F = 0 → h = hu d ∧ hd = hu (d + 1) := fun z => by
      obtain ⟨a1, a2, a3, a4⟩ := hA z
      have b1 := a3 d (by omega)
      have b2 := a3 (d + 1) (by omega)
      exact ⟨hI_inj h5 b1.2 (eh.symm.trans b1.1), hI_inj hd5 b2.2 (ehd.symm.trans b2.1)⟩
    refine w_ck hm.2.1.k (w_clr (closes_m (g := g) (r := re (d + 1)) (F0 := F = 0) hm.2.1.1 (by omega) h14 eh h5 ehd hd5 (fun z => ⟨(hA z).2.1, (hA z).2.2.2 (d + 1) (by omega) (by omega)⟩)) ?_)
    rintro _ S1 ⟨f1, h1, A1⟩
    have z1 : FZ S S1 := f1.fz (fun a z => Or.inl z)
    refine its58_m (g := clG g d (hu d) (clH hu d) (re (d + 1))) (hu := if hu (d + 1) = 4 then hu else up hu d (hu (d + 1))) (re := re) (z1.mu hm) hDc (by rw [f1.2.2.2.2.2 32 14 (by omega)]; exact h14) (fun l q1 q2 => ?_) (fun z => ?_) (fun S' m => hQ S' (PM_t m))
    · rw [h1]
      by_cases e : hd ≠ 4 ∧ l = d
      · exact ⟨hd, hd5, by rw [if_pos e]⟩
      · rw [if_neg e]; exact hk l (by omega) q2
    · obtain ⟨a1, a2, a3, a4⟩ := hA z
      obtain ⟨e1, e2⟩ := hEq z
      have A2 := A1 z
      rw [e1, e2] at A2
      rw [e2] at h1
      have hd5' : hu (d + 1) < 5 := by rw [← e2]; exact hd5
      refine ⟨by omega, fun l t k q1 q2 q3 => A2 l t k (by omega) q2 q3, fun l hl => ?_, fun l q1 q2 => ?_⟩
      · rw [h1]
        by_cases e4 : hu (d + 1) = 4
        · rw [if_neg (fun q => q.1 e4), if_pos e4]; exact a3 l (by omega)
        · rw [if_neg e4]
          unfold up
          by_cases e : l = d
          · rw [if_pos ⟨e4, e⟩, if_pos e]; exact ⟨rfl, hd5'⟩
          · rw [if_neg (fun q => e q.2), if_neg e]; exact a3 l (by omega)
      · rw [f1.2.2.2.2.2 38 l (by omega)]; exact a4 l q1 (by omega)
/-- the end of the items -/
def EM (al : Nat → Int32) (S0 S : St) (b : Nat → Nat) (n : Nat) (s : PS) : Prop := (MIs al S0 S b n s ∧ s.2.1 = 0) ∨ (WU al S0 S s.2.2.2.1 ∧ s.2.2.1 = 1)
theorem mits_m {al : Nat → Int32} {S0 S : St} {b : Nat → Nat} {n : Nat} {s : PS} (hc : MIs al S0 S b n s) (hz : s.1 = 0) : Rn (fX12_items 32 S) (fun _ S' => EM al S0 S' b n (its b n (n + 1) s)) := by
  have h400 := hc.1.2.1.2.2.1
  unfold fX12_items
  refine w_itr (fun m p S' => p = 32 ∧ ((∃ s' f, MIs al S0 S' b n s' ∧ its b n f s' = its b n (n + 1) s ∧ n + 1 ≤ f + s'.1 ∧ m = f + 1) ∨ (1 ≤ m ∧ WU al S0 S' (its b n (n + 1) s).2.2.2.1 ∧ (its b n (n + 1) s).2.2.1 = 1))) ?_ ?_ (n + 2) FU _ _ (by unfold FU; omega) ⟨rfl, Or.inl ⟨s, n + 1, hc, rfl, by omega, rfl⟩⟩
  · rintro p S' ⟨_, ⟨s', f, _, _, _, h7⟩ | ⟨h2, _⟩⟩
    · omega
    · omega
  rintro m k p S' ⟨rfl, ⟨s', f, c1, e1, hf, hm⟩ | ⟨_, w1, w2⟩⟩ hk
  · obtain ⟨mu, hDc, h14, hkk, hA⟩ := id c1
    have hcn := mu.2.2.1
    have hK := mK_le b n s'.1
    have hdl : s'.2.1 ≤ s'.1 := hDc
    obtain ⟨f0, rfl⟩ : ∃ f0, f = f0 + 1 := ⟨f - 1, by omega⟩
    have hgo : ∀ S2, ¬ (tK b n s'.1 = 0 ∧ s'.2.1 = 0) → PM al S0 S2 b n (itemS b n s') → Rn (k 32 S2) (fun _ S' => EM al S0 S' b n (its b n (n + 1) s)) := by
      intro S2 hne pm
      rw [its, if_neg hne] at e1
      by_cases u : (itemS b n s').1 = true
      · rw [if_pos u] at e1
        have hcc : s'.1 < (itemS b n s').2.1 := item_c hcn u
        exact hk _ _ ⟨rfl, Or.inl ⟨(itemS b n s').2, f0, pm.1 u, e1, by omega, by omega⟩⟩
      · rw [if_neg u] at e1
        obtain ⟨q1, q2⟩ := pm.2 (Bool.eq_false_iff.mpr u)
        rw [← e1] at hk ⊢
        exact hk _ _ ⟨rfl, Or.inr ⟨by omega, q1, q2⟩⟩
    have h22 : ¬ (tK b n s'.1 = 0 ∧ s'.2.1 = 0) → Rn (fX12_items_22 k 32 S') (fun _ S' => EM al S0 S' b n (its b n (n + 1) s)) := by
      intro hne
      have h38 : ¬ (isS b n s'.1 93 ∧ 0 < s'.2.1) → Rn (fX12_items_38 k 32 S') (fun _ S' => EM al S0 S' b n (its b n (n + 1) s)) := by
        intro hns
        unfold fX12_items_38
        refine w_ck mu.2.1.k (w_clr (anItem_m c1 hns) ?_)
        rintro _ S2 pm
        exact hgo S2 hne pm
      unfold fX12_items_22
      refine w_ck mu.2.1.k (w_cl (isSign_m (y := 93) mu (by decide)) (w_z (fun u => ?_) (fun u => ?_)))
      · have u := of_decide_eq_true u
        refine w_gIe mu.2.1.k h14 (w_br (fun v => ?_) (fun v => ?_))
        · rw [show (0 : Int32) = Int32.ofNat 0 from rfl, eq_ofNat (by omega) (by omega)] at v
          exact h38 (fun z => by have := z.2; omega)
        · rw [show (0 : Int32) = Int32.ofNat 0 from rfl, eq_ofNat (by omega) (by omega)] at v
          obtain ⟨c, D, F, P, g, hu, re⟩ := s'
          have v : D ≠ 0 := v
          obtain ⟨d, rfl⟩ : ∃ d, D = d + 1 := ⟨D - 1, by omega⟩
          have u : isS b n c 93 := u
          refine cls_m c1 (fun S2 pm => hgo S2 hne ?_)
          have e : itemS b n (c, d + 1, F, P, g, hu, re) = clsI b n c d F P g hu re := by
            show item b n c (d + 1) F P g hu re = _
            rw [item, if_neg (fun z => by have := z.1.1; have := u.1; omega), if_neg (fun z => by have := z.1.1; have := u.1; omega), if_neg (by have := u.1; omega), if_pos ⟨u, by omega⟩]
            rfl
          rw [e]; exact pm
      · exact h38 (fun z => of_decide_eq_false u z.1)
    dsimp only [fX12_items_0]
    have h0 : mK b n s'.1 = 0 ↔ tK b n s'.1 = 0 := by
      unfold mK
      constructor
      · intro z
        revert z
        repeat' split
        all_goals (intro z; omega)
      · intro z
        rw [if_pos z]
    refine w_gIe mu.2.1.k mu.2.2.2.2.1 (w_bt rfl (w_gIe mu.2.1.k mu.2.2.2.1.2.2.1 (w_br (fun u => w_gIe mu.2.1.k h14 (w_br (fun v => ?_) (fun v => h22 ?_))) (fun u => h22 ?_))))
    · rw [show (0 : Int32) = Int32.ofNat 0 from rfl, eq_ofNat (by omega) (by omega)] at u v
      rw [its, if_pos ⟨h0.mp u, v⟩] at e1
      rw [← e1]
      exact w_rt (Or.inl ⟨c1, v⟩)
    · rw [show (0 : Int32) = Int32.ofNat 0 from rfl, eq_ofNat (by omega) (by omega)] at v
      exact fun z => v z.2
    · rw [show (0 : Int32) = Int32.ofNat 0 from rfl, eq_ofNat (by omega) (by omega)] at u
      exact fun z => u (h0.mpr z.1)
  · dsimp only [fX12_items_0]
    exact w_gIe (SH_K32 w1.1.1) w1.2 (w_bf (by decide) (w_rt (Or.inr ⟨w1, w2⟩)))
