/-! THE CLASS'S NETS: parts that hang together, pure -/
def nt_l (L : Int → Int) (N x y : Int) : Prop := 0 ≤ x ∧ x < N ∧ y = L x
def nt_w (P : Int → Int) (h : Int) : Prop := 0 ≤ h ∧ h < 217 ∧ P h ≠ -1
/-- E: what has been joined so far, between HUBS that have a part -/
def nt_U (P L : Int → Int) (N : Int) (E : Int → Int → Prop) : Prop := (∀ x, 0 ≤ x → x < N → 0 ≤ L x ∧ L x ≤ x) ∧ (∀ h, nt_w P h → 0 ≤ P h ∧ P h < N) ∧ (∀ x y, E x y → nt_w P x ∧ nt_w P y ∧ mp_q (nt_l L N) (P x) (P y)) ∧ ∀ f : Int → Int, (∀ x y, E x y → f x = f y) → ∃ F : Int → Int, (∀ x, 0 ≤ x → x < N → F (L x) = F x) ∧ ∀ h, nt_w P h → F (P h) = f h
/-- what more is joined -/
def nt_e (E : Int → Int → Prop) (a b x y : Int) : Prop := E x y ∨ (x = a ∧ y = b)
theorem nt_U.e {P L : Int → Int} {N : Int} {E E2 : Int → Int → Prop} (U : nt_U P L N E) (h : ∀ x y, E x y ↔ E2 x y) : nt_U P L N E2 := by
  obtain ⟨u1, u2, u3, u4⟩ := U
  exact ⟨u1, u2, fun x y e => u3 x y ((h x y).mpr e), fun f hf => u4 f (fun x y e => hf x y ((h x y).mp e))⟩
/-- two HUBS without a part: a new one -/
theorem nt_U.new {P L : Int → Int} {N : Int} {E : Int → Int → Prop} (U : nt_U P L N E) (N0 : 0 ≤ N) {a b : Int} (a0 : 0 ≤ a) (a1 : a < 217) (b0 : 0 ≤ b) (b1 : b < 217) (pa : P a = -1) (pb : P b = -1) {P2 L2 : Int → Int} (hP : ∀ h, P2 h = if h = a ∨ h = b then N else P h) (hL : ∀ x, L2 x = if x = N then N else L x) : nt_U P2 L2 (N + 1) (nt_e E a b) := by
  obtain ⟨u1, u2, u3, u4⟩ := U
  have old : ∀ h, nt_w P h → nt_w P2 h ∧ P2 h = P h := fun h w => by
    have e : P2 h = P h := by
      rw [hP]
      refine if_neg (fun z => ?_)
      rcases z with z | z
      · exact w.2.2 (by rw [z]; exact pa)
      · exact w.2.2 (by rw [z]; exact pb)
    exact ⟨⟨w.1, w.2.1, by rw [e]; exact w.2.2⟩, e⟩
  have pn : ∀ h, h = a ∨ h = b → P2 h = N := fun h z => by rw [hP, if_pos z]
  have ll : ∀ x, 0 ≤ x → x < N → L2 x = L x := fun x x0 x1 => by rw [hL, if_neg (by omega)]
  have mo : ∀ {p q : Int}, mp_q (nt_l L N) p q → mp_q (nt_l L2 (N + 1)) p q := fun h => h.mo (fun x y ⟨x0, x1, e⟩ => ⟨x0, by omega, by rw [ll x x0 x1]; exact e⟩)
  refine ⟨fun x x0 x1 => ?_, fun h w => ?_, fun x y e => ?_, fun f hf => ?_⟩
  · by_cases z : x = N
    · rw [hL, if_pos z]; omega
    · rw [ll x x0 (by omega)]; exact u1 x x0 (by omega)
  · by_cases z : h = a ∨ h = b
    · rw [pn h z]; omega
    · have e : P2 h = P h := by rw [hP, if_neg z]
      have q := u2 h ⟨w.1, w.2.1, by rw [← e]; exact w.2.2⟩
      rw [e]; omega
  · rcases e with e | ⟨e1, e2⟩
    · obtain ⟨wx, wy, q⟩ := u3 x y e
      refine ⟨(old x wx).1, (old y wy).1, ?_⟩
      rw [(old x wx).2, (old y wy).2]
      exact mo q
    · rw [e1, e2]
      refine ⟨⟨a0, a1, by rw [pn a (Or.inl rfl)]; omega⟩, ⟨b0, b1, by rw [pn b (Or.inr rfl)]; omega⟩, ?_⟩
      rw [pn a (Or.inl rfl), pn b (Or.inr rfl)]
      exact mp_q.rf
  · obtain ⟨F, F1, F2⟩ := u4 f (fun x y e => hf x y (Or.inl e))
    have fab : f a = f b := hf a b (Or.inr ⟨rfl, rfl⟩)
    refine ⟨fun x => if x = N then f a else F x, fun x x0 x1 => ?_, fun h w => ?_⟩
    · show (if L2 x = N then f a else F (L2 x)) = if x = N then f a else F x
      by_cases z : x = N
      · rw [hL, if_pos z, if_pos rfl, if_pos z]
      · have q := u1 x x0 (by omega)
        rw [ll x x0 (by omega), if_neg (by omega), if_neg z]
        exact F1 x x0 (by omega)
    · show (if P2 h = N then f a else F (P2 h)) = f h
      by_cases z : h = a ∨ h = b
      · rw [pn h z, if_pos rfl]
        rcases z with z | z
        · rw [z]
        · rw [z]; exact fab
      · have e : P2 h = P h := by rw [hP, if_neg z]
        have w2 : nt_w P h := ⟨w.1, w.2.1, by rw [← e]; exact w.2.2⟩
        have q := u2 h w2
        rw [e, if_neg (by omega)]
        exact F2 h w2
/-- one of the two has a part -/
theorem nt_U.one {P L : Int → Int} {N : Int} {E : Int → Int → Prop} (U : nt_U P L N E) {a b c d : Int} (hcd : (c = a ∧ d = b) ∨ (c = b ∧ d = a)) (a0 : 0 ≤ a) (a1 : a < 217) (pa : P a = -1) (wb : nt_w P b) {P2 : Int → Int} (hP : ∀ h, P2 h = if h = a then P b else P h) : nt_U P2 L N (nt_e E c d) := by
  obtain ⟨u1, u2, u3, u4⟩ := U
  have old : ∀ h, nt_w P h → nt_w P2 h ∧ P2 h = P h := fun h w => by
    have e : P2 h = P h := by
      rw [hP]
      exact if_neg (fun z => w.2.2 (by rw [z]; exact pa))
    exact ⟨⟨w.1, w.2.1, by rw [e]; exact w.2.2⟩, e⟩
  have pn : P2 a = P b := by rw [hP, if_pos rfl]
  have wa : nt_w P2 a := ⟨a0, a1, by rw [pn]; exact wb.2.2⟩
  refine ⟨u1, fun h w => ?_, fun x y e => ?_, fun f hf => ?_⟩
  · by_cases z : h = a
    · rw [z, pn]; exact u2 b wb
    · have e : P2 h = P h := by rw [hP, if_neg z]
      rw [e]
      exact u2 h ⟨w.1, w.2.1, by rw [← e]; exact w.2.2⟩
  · rcases e with e | ⟨e1, e2⟩
    · obtain ⟨wx, wy, q⟩ := u3 x y e
      refine ⟨(old x wx).1, (old y wy).1, ?_⟩
      rw [(old x wx).2, (old y wy).2]
      exact q
    · rw [e1, e2]
      rcases hcd with ⟨h1, h2⟩ | ⟨h1, h2⟩
      · rw [h1, h2]
        refine ⟨wa, (old b wb).1, ?_⟩
        rw [pn, (old b wb).2]
        exact mp_q.rf
      · rw [h1, h2]
        refine ⟨(old b wb).1, wa, ?_⟩
        rw [pn, (old b wb).2]
        exact mp_q.rf
  · obtain ⟨F, F1, F2⟩ := u4 f (fun x y e => hf x y (Or.inl e))
    have fab : f a = f b := by
      have q := hf c d (Or.inr ⟨rfl, rfl⟩)
      rcases hcd with ⟨h1, h2⟩ | ⟨h1, h2⟩
      · rw [h1, h2] at q; exact q
      · rw [h1, h2] at q; exact q.symm
    refine ⟨F, F1, fun h w => ?_⟩
    by_cases z : h = a
    · rw [z, pn, fab]; exact F2 b wb
    · have e : P2 h = P h := by rw [hP, if_neg z]
      rw [e]
      exact F2 h ⟨w.1, w.2.1, by rw [← e]; exact w.2.2⟩
/-- both have: their roots are linked -/
theorem nt_U.two {P L : Int → Int} {N : Int} {E : Int → Int → Prop} (U : nt_U P L N E) {a b : Int} (wa : nt_w P a) (wb : nt_w P b) {r s : Int} (r0 : 0 ≤ r) (r1 : r < N) (s0 : 0 ≤ s) (s1 : s < N) (hr : L r = r) (hs : L s = s) (qr : mp_q (nt_l L N) (P a) r) (qs : mp_q (nt_l L N) (P b) s) {L2 : Int → Int} (hL : ∀ x, L2 x = if x = (if r < s then s else r) then (if s < r then s else r) else L x) : nt_U P L2 N (nt_e E a b) := by
  obtain ⟨u1, u2, u3, u4⟩ := U
  have hh : ∃ lo hi : Int, lo ≤ hi ∧ ((lo = r ∧ hi = s) ∨ (lo = s ∧ hi = r)) ∧ ∀ x, L2 x = if x = hi then lo else L x := by
    by_cases z : r < s
    · refine ⟨r, s, by omega, Or.inl ⟨rfl, rfl⟩, fun x => ?_⟩
      rw [hL, if_pos z, if_neg (show ¬ s < r by omega)]
    · by_cases y : s < r
      · refine ⟨s, r, by omega, Or.inr ⟨rfl, rfl⟩, fun x => ?_⟩
        rw [hL, if_neg z, if_pos y]
      · refine ⟨r, r, by omega, Or.inl ⟨rfl, by omega⟩, fun x => ?_⟩
        rw [hL, if_neg z, if_neg y]
  obtain ⟨lo, hi, hle, hlh, hL⟩ := hh
  have hhi : L hi = hi := by rcases hlh with ⟨-, e⟩ | ⟨-, e⟩ <;> rw [e] <;> assumption
  have b1 : 0 ≤ lo ∧ hi < N ∧ 0 ≤ hi := by rcases hlh with ⟨e1, e2⟩ | ⟨e1, e2⟩ <;> omega
  have mo : ∀ {p q : Int}, mp_q (nt_l L N) p q → mp_q (nt_l L2 N) p q := fun {p q} h => by
    intro f hf
    refine h f (fun x y ⟨x0, x1, e⟩ => ?_)
    by_cases z : x = hi
    · rw [e, z, hhi]
    · have q := hf x (L2 x) ⟨x0, x1, rfl⟩
      rw [hL, if_neg z] at q
      rw [e]; exact q
  have lk : mp_q (nt_l L2 N) hi lo := mp_q.of ⟨b1.2.2, b1.2.1, by rw [hL, if_pos rfl]⟩
  have rs : mp_q (nt_l L2 N) r s := by
    rcases hlh with ⟨e1, e2⟩ | ⟨e1, e2⟩
    · rw [← e1, ← e2]; exact lk.sy
    · rw [← e1, ← e2]; exact lk
  refine ⟨fun x x0 x1 => ?_, u2, fun x y e => ?_, fun f hf => ?_⟩
  · rw [hL]
    split
    · omega
    · exact u1 x x0 x1
  · rcases e with e | ⟨e1, e2⟩
    · obtain ⟨wx, wy, q⟩ := u3 x y e
      exact ⟨wx, wy, mo q⟩
    · rw [e1, e2]
      exact ⟨wa, wb, ((mo qr).tr rs).tr (mo qs).sy⟩
  · obtain ⟨F, F1, F2⟩ := u4 f (fun x y e => hf x y (Or.inl e))
    have fab : f a = f b := hf a b (Or.inr ⟨rfl, rfl⟩)
    have FL : ∀ x y, nt_l L N x y → F x = F y := fun x y ⟨x0, x1, e⟩ => by rw [e]; exact (F1 x x0 x1).symm
    have Fr : F r = F s := by rw [← qr F FL, ← qs F FL, F2 a wa, F2 b wb, fab]
    refine ⟨F, fun x x0 x1 => ?_, F2⟩
    rw [hL]
    split
    · next z =>
      rw [z]
      rcases hlh with ⟨e1, e2⟩ | ⟨e1, e2⟩
      · rw [e1, e2]; exact Fr
      · rw [e1, e2]; exact Fr.symm
    · exact F1 x x0 x1
/-! counting what has a mark -/
def nt_cf (b : Int → Int) : Nat → Int
  | 0 => 0
  | h + 1 => nt_cf b h + (if b (h : Int) = 0 then 0 else 1)
def nt_c (b : Int → Int) (h : Int) : Int := nt_cf b h.toNat
theorem nt_c_s {b : Int → Int} {h : Int} (h0 : 0 ≤ h) : nt_c b (h + 1) = nt_c b h + (if b h = 0 then 0 else 1) := by
  unfold nt_c
  rw [show (h + 1).toNat = h.toNat + 1 by omega]
  show nt_cf b h.toNat + (if b ((h.toNat : Nat) : Int) = 0 then 0 else 1) = _
  rw [Int.toNat_of_nonneg h0]
theorem nt_c_y {b : Int → Int} {h : Int} (h0 : 0 ≤ h) (e : b h ≠ 0) : nt_c b (h + 1) = nt_c b h + 1 := by rw [nt_c_s h0, if_neg e]
theorem nt_c_n {b : Int → Int} {h : Int} (h0 : 0 ≤ h) (e : b h = 0) : nt_c b (h + 1) = nt_c b h := by rw [nt_c_s h0, if_pos e]; omega
theorem nt_c_m {b : Int → Int} {h : Int} (h0 : 0 ≤ h) : ∀ f : Nat, nt_c b h ≤ nt_c b (h + (f : Int)) ∧ nt_c b (h + (f : Int)) ≤ nt_c b h + (f : Int) := by
  intro f
  induction f with
  | zero => rw [show h + ((0 : Nat) : Int) = h by omega]; omega
  | succ f ih =>
    have q := nt_c_s (b := b) (h := h + (f : Int)) (by omega)
    rw [show h + ((f + 1 : Nat) : Int) = h + (f : Int) + 1 by omega, q]
    split <;> omega
theorem nt_c_le {b : Int → Int} {h k : Int} (h0 : 0 ≤ h) (hk : h ≤ k) : nt_c b h ≤ nt_c b k ∧ nt_c b k ≤ nt_c b h + (k - h) := by
  have q := nt_c_m (b := b) h0 (k - h).toNat
  rw [show h + (((k - h).toNat : Nat) : Int) = k by omega] at q
  omega
theorem nt_c_0 {b : Int → Int} : nt_c b 0 = 0 := rfl
theorem nt_c_r {b : Int → Int} {h : Int} (h0 : 0 ≤ h) : 0 ≤ nt_c b h ∧ nt_c b h ≤ h := by
  have q := nt_c_le (b := b) (Int.le_refl 0) h0
  rw [nt_c_0] at q
  omega
/-- whether a HUB has a part, as a mark -/
def nt_b (P : Int → Int) (h : Int) : Int := if P h = -1 then 0 else 1
theorem nt_b_y {P : Int → Int} {h : Int} (e : P h ≠ -1) : nt_b P h ≠ 0 := by unfold nt_b; rw [if_neg e]; decide
theorem nt_b_n {P : Int → Int} {h : Int} (e : P h = -1) : nt_b P h = 0 := if_pos e
/-! the class's rootOf -/
theorem c8_rl {k nk : Nat} {s p0 N : Int} {m : dc_M} {L : Int → Int} (hL : ∀ x, 0 ≤ x → x < N → m k (s + x) = L x) (hN : N ≤ 60) (hs : 0 ≤ s ∧ s ≤ 900) (u1 : ∀ x, 0 ≤ x → x < N → 0 ≤ L x ∧ L x ≤ x) : ∀ (c : Nat) (l3 l4 v : Int) (m' : dc_M), LM_67 k nk s p0 c 5 l3 l4 m v m' → 0 ≤ l3 → l3 < N → 0 ≤ l4 → l3 + l4 < 60 → m' = m ∧ 0 ≤ v ∧ v < N ∧ L v = v ∧ mp_q (nt_l L N) l3 v := by
  intro c
  induction c with
  | zero => intro l3 l4 v m' h; exact h.elim
  | succ c ih =>
    intro l3 l4 v m' h a0 a1 b0 b1
    have w1 : dc_w (l4 + 1) = l4 + 1 := dw (by omega) (by omega)
    have w2 : dc_w (s + l3) = s + l3 := dw (by omega) (by omega)
    have u := u1 l3 a0 a1
    replace h := lm_67_5.mp h
    rw [w1, w2, hL l3 a0 a1] at h
    rcases h with ⟨c1, -⟩ | ⟨c1, -, h⟩
    · exfalso; omega
    · rcases h with ⟨c2, ev, em⟩ | ⟨c2, -, h⟩
      · rw [ev]; exact ⟨em, a0, a1, c2, mp_q.rf⟩
      · obtain ⟨i1, i2, i3, i4, i5⟩ := ih (L l3) (l4 + 1) v m' h u.1 (by clear h; omega) (by clear h; omega) (by clear h; omega)
        exact ⟨i1, i2, i3, i4, (mp_q.of ⟨a0, a1, rfl⟩).tr i5⟩
theorem c8_root {k nk : Nat} {s p N : Int} {m : dc_M} {L : Int → Int} (hL : ∀ x, 0 ≤ x → x < N → m k (s + x) = L x) (hN : N ≤ 60) (hs : 0 ≤ s ∧ s ≤ 900) (u1 : ∀ x, 0 ≤ x → x < N → 0 ≤ L x ∧ L x ≤ x) {v : Int} {m' : dc_M} (h : D_67 k nk s p m v m') (p0 : 0 ≤ p) (p1 : p < N) : m' = m ∧ 0 ≤ v ∧ v < N ∧ L v = v ∧ mp_q (nt_l L N) p v := by
  obtain ⟨c, h⟩ := h
  exact c8_rl hL hN hs u1 c p 0 v m' h p0 p1 (Int.le_refl 0) (by clear h; omega)
/-! join, build -/
def c8_U (m : dc_M) (E : Int → Int → Prop) : Prop := (0 ≤ m 17 2 ∧ m 17 2 ≤ 60) ∧ nt_U (m 18) (m 19) (m 17 2) E
def c8_f (m0 m : dc_M) : Prop := ∀ (k : Nat) (i : Int), ¬ (k = 17 ∧ i = 2) → k ≠ 18 → k ≠ 19 → m k i = m0 k i
theorem c8_join {a b : Int} {m : dc_M} {v : Int} {m' : dc_M} (h : D_66 a b m v m') {E : Int → Int → Prop} (U : c8_U m E) : c8_U m' (nt_e E a b) ∧ c8_f m m' ∧ (∀ x, nt_w (m' 18) x ↔ nt_w (m 18) x ∨ x = a ∨ x = b) ∧ (0 ≤ a ∧ a < 217) ∧ (0 ≤ b ∧ b < 217) := by
  obtain ⟨⟨N0, N1⟩, U⟩ := U
  obtain ⟨⟨a0, a1⟩, h⟩ := h
  have hL : ∀ x, 0 ≤ x → x < m 17 2 → m 19 (0 + x) = m 19 x := fun x _ _ => by rw [Int.zero_add]
  -- both have a part
  have two : m 18 a ≠ -1 → m 18 b ≠ -1 → (0 ≤ b ∧ b < 217) → (∃ v1 m1, D_67 19 60 0 (m 18 a) m v1 m1 ∧ ((0 ≤ b ∧ b < 217) ∧ ∃ v2 m2, D_67 19 60 0 (m1 18 b) m1 v2 m2 ∧ ((0 ≤ ((if v1 < v2 then v2 else v1) : Int) ∧ ((if v1 < v2 then v2 else v1) : Int) < 60) ∧ ∃ m3, m3 = dc_up m2 19 (if v1 < v2 then v2 else v1) (if v2 < v1 then v2 else v1) ∧ (v = 0 ∧ m' = m3)))) → c8_U m' (nt_e E a b) ∧ c8_f m m' ∧ (∀ x, nt_w (m' 18) x ↔ nt_w (m 18) x ∨ x = a ∨ x = b) ∧ (0 ≤ a ∧ a < 217) ∧ (0 ≤ b ∧ b < 217) := by
    intro pa pb hb ⟨v1, m1, h1, _, v2, m2, h2, _, m3, e3, _, em⟩
    have wa : nt_w (m 18) a := ⟨a0, a1, pa⟩
    have wb : nt_w (m 18) b := ⟨hb.1, hb.2, pb⟩
    have qa := U.2.1 a wa
    have qb := U.2.1 b wb
    obtain ⟨r1, r2, r3, r4, r5⟩ := c8_root hL N1 ⟨by decide, by decide⟩ U.1 h1 qa.1 qa.2
    clear h1
    rw [r1] at h2
    obtain ⟨s1, s2, s3, s4, s5⟩ := c8_root hL N1 ⟨by decide, by decide⟩ U.1 h2 qb.1 qb.2
    clear h2
    rw [s1] at e3
    have e18 : m' 18 = m 18 := by rw [em, e3]; exact funext fun i => dc_up_k (by decide)
    have e17 : m' 17 2 = m 17 2 := by rw [em, e3, dc_up_k (by decide)]
    refine ⟨⟨by rw [e17]; exact ⟨N0, N1⟩, ?_⟩, fun k i z1 z2 z3 => by rw [em, e3, dc_up_k z3], fun x => ?_, ⟨a0, a1⟩, hb⟩
    · rw [e18, e17]
      refine U.two wa wb r2 r3 s2 s3 r4 s4 r5 s5 (fun x => ?_)
      rw [em, e3]
      by_cases z : x = (if v1 < v2 then v2 else v1)
      · rw [z, dc_up_s, if_pos rfl]
      · rw [dc_up_i z, if_neg z]
    · rw [e18]
      refine ⟨Or.inl, fun z => ?_⟩
      rcases z with z | z | z
      · exact z
      · rw [z]; exact wa
      · rw [z]; exact wb
  -- one of them
  have one : ∀ c d : Int, ((a = c ∧ b = d) ∨ (a = d ∧ b = c)) → m 18 c = -1 → m 18 d ≠ -1 → (0 ≤ c ∧ c < 217) → (0 ≤ d ∧ d < 217) → m' = dc_up m 18 c (m 18 d) → c8_U m' (nt_e E a b) ∧ c8_f m m' ∧ (∀ x, nt_w (m' 18) x ↔ nt_w (m 18) x ∨ x = a ∨ x = b) ∧ (0 ≤ a ∧ a < 217) ∧ (0 ≤ b ∧ b < 217) := by
    intro c d hcd pc pd hc hd em
    have wd : nt_w (m 18) d := ⟨hd.1, hd.2, pd⟩
    have e17 : m' 17 2 = m 17 2 := by rw [em, dc_up_k (by decide)]
    have e19 : m' 19 = m 19 := by rw [em]; exact funext fun i => dc_up_k (by decide)
    have eP : ∀ x, m' 18 x = if x = c then m 18 d else m 18 x := fun x => by
      rw [em]
      by_cases z : x = c
      · rw [z, dc_up_s, if_pos rfl]
      · rw [dc_up_i z, if_neg z]
    refine ⟨⟨by rw [e17]; exact ⟨N0, N1⟩, ?_⟩, fun k i z1 z2 z3 => by rw [em, dc_up_k z2], fun x => ?_, ?_, ?_⟩
    · rw [e17, e19]
      exact U.one hcd hc.1 hc.2 pc wd eP
    · unfold nt_w
      rw [eP]
      by_cases z : x = c
      · rw [if_pos z]
        refine ⟨fun _ => Or.inr (by rcases hcd with ⟨y1, y2⟩ | ⟨y1, y2⟩; exact Or.inl (z.trans y1.symm); exact Or.inr (z.trans y2.symm)), fun _ => ⟨by omega, by omega, pd⟩⟩
      · rw [if_neg z]
        refine ⟨fun y => Or.inl y, fun y => ?_⟩
        rcases y with y | y
        · exact y
        · have : x = d := by rcases hcd with ⟨y1, y2⟩ | ⟨y1, y2⟩ <;> omega
          rw [this]; exact wd
    · rcases hcd with ⟨y1, y2⟩ | ⟨y1, y2⟩ <;> rw [y1] <;> assumption
    · rcases hcd with ⟨y1, y2⟩ | ⟨y1, y2⟩ <;> rw [y2] <;> assumption
  rcases h with ⟨pa, -, h⟩ | ⟨pa, hb, h⟩
  · rcases h with ⟨-, hb, h⟩ | ⟨d, -⟩
    · rcases h with ⟨pb, -, h⟩ | ⟨pb, -, -, m1, e1, -, em⟩
      · exact two pa pb hb h
      · exact one b a (Or.inr ⟨rfl, rfl⟩) (Classical.not_not.mp pb) pa hb ⟨a0, a1⟩ (em.trans e1)
    · exact absurd pa d
  · have pa2 : m 18 a = -1 := Classical.not_not.mp pa
    rcases h with ⟨pb, -, h⟩ | ⟨pb, hN, m1, e1, -, m2, e2, -, m3, e3, m4, e4, -, em⟩
    · rcases h with ⟨d, -⟩ | ⟨-, -, -, m1, e1, -, em⟩
      · exact absurd d pa
      · exact one a b (Or.inl ⟨rfl, rfl⟩) pa2 pb ⟨a0, a1⟩ hb (em.trans e1)
    · have pb2 : m 18 b = -1 := Classical.not_not.mp pb
      have g2 : m1 17 2 = m 17 2 := by rw [e1, dc_up_k (by decide)]
      rw [g2] at e2
      have g3 : m2 17 2 = m 17 2 := by rw [e2, dc_up_k (by decide)]; exact g2
      rw [g3] at e3
      have g4 : m3 17 2 = m 17 2 := by rw [e3, dc_up_k (by decide)]; exact g3
      rw [g4, dw (by omega) (by omega)] at e4
      have eP : ∀ x, m' 18 x = if x = a ∨ x = b then m 17 2 else m 18 x := fun x => by
        rw [em, e4, dc_up_k (by decide), e3]
        by_cases z : x = b
        · rw [z, dc_up_s, if_pos (Or.inr rfl)]
        · rw [dc_up_i z, e2]
          by_cases y : x = a
          · rw [y, dc_up_s, if_pos (Or.inl rfl)]
          · rw [dc_up_i y, e1, dc_up_k (by decide), if_neg (fun q => by rcases q with q | q; exact y q; exact z q)]
      have eL : ∀ x, m' 19 x = if x = m 17 2 then m 17 2 else m 19 x := fun x => by
        rw [em, e4, dc_up_k (by decide), e3, dc_up_k (by decide), e2, dc_up_k (by decide), e1]
        by_cases z : x = m 17 2
        · rw [z, dc_up_s, if_pos rfl]
        · rw [dc_up_i z, if_neg z]
      have e17 : m' 17 2 = m 17 2 + 1 := by rw [em, e4, dc_up_s]
      refine ⟨⟨by rw [e17]; omega, ?_⟩, fun k i z1 z2 z3 => ?_, fun x => ?_, ⟨a0, a1⟩, hb⟩
      · rw [e17]
        exact U.new N0 a0 a1 hb.1 hb.2 pa2 pb2 eP eL
      · rw [em, e4]
        refine (if_neg z1).trans ?_
        rw [e3, dc_up_k z2, e2, dc_up_k z2, e1, dc_up_k z3]
      · unfold nt_w
        rw [eP]
        by_cases z : x = a ∨ x = b
        · rw [if_pos z]
          exact ⟨fun _ => Or.inr z, fun _ => ⟨by omega, by omega, by omega⟩⟩
        · rw [if_neg z]
          exact ⟨fun y => Or.inl y, fun y => y.resolve_right z⟩
