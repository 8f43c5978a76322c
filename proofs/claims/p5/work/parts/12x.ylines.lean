abbrev oR (σ : Sto) (b : Nat) : Int := (σ.1 33 b).toInt
abbrev fallT (σ : Sto) (b : Nat) : Int := (σ.1 24 (laR σ b + 1)).toInt
abbrev jmpT (σ : Sto) (b : Nat) : Int := (σ.1 24 (nM σ (laR σ b)).toNat).toInt
abbrev sB (σ : Sto) (b : Nat) : Int := (σ.1 45 b).toInt
def stLs (b a : Int) : Nat → List Ln
  | 0 => []
  | n + 1 => stLs b a n ++ [(0, b, a + n)]
theorem stLs_len (b a : Int) : ∀ n, (stLs b a n).length = n
  | 0 => rfl
  | n + 1 => by unfold stLs; rw [List.length_append, stLs_len b a n]; rfl
def tyL (σ : Sto) (b : Nat) : List Ln := if (σ.1 25 b).toInt = -1 then [] else [(9, (b : Int), -1)]
def caL (σ : Sto) (b : Nat) : List Ln := if (σ.1 25 b).toInt = -1 then [] else [(10, (σ.1 25 b).toInt, (b : Int))]
def MC (σ : Sto) (b m : Nat) : Prop := CHs σ b m ∧ MGp σ m
/-- lines as they are told -/
def TEL (σ : Sto) : Nat → Nat → Nat → Int → List Ln → Prop
  | 0, _, _, _, _ => False
  | d + 1, w, b, k, l =>
    (w = 0 ∧ ((σ.2 1 b = 0 ∧ TEL σ d 1 b (nB σ) l) ∨ (σ.2 1 b ≠ 0 ∧ ∃ l1, TEL σ d 1 b (nB σ) l1 ∧ l = [(1, (b : Int), -1)] ++ (l1 ++ [(5, (b : Int), 1)])))) ∨
    (w = 1 ∧ (((∀ m, MC σ b m → k ≤ oR σ m) ∧ TEL σ d 2 b 0 l) ∨ ∃ m l1 l2, MC σ b m ∧ oR σ m < k ∧ (∀ u, MC σ b u → oR σ u < k → oR σ u ≤ oR σ m) ∧ TEL σ d 1 b (oR σ m) l1 ∧ TEL σ d 0 m 0 l2 ∧ l = [(2, (m : Int), -1)] ++ (l1 ++ ([(5, (m : Int), 2)] ++ l2)))) ∨
    (w = 2 ∧ ∃ tl, l = [(11, (b : Int), -1)] ++ (tyL σ b ++ (stLs b (sB σ b) (sB σ (b + 1) - sB σ b).toNat ++ (caL σ b ++ tl))) ∧ ((FORK σ b ∧ ∃ l1 l2, TEL σ d 3 b (fallT σ b) l1 ∧ TEL σ d 3 b (jmpT σ b) l2 ∧ tl = [(3, (b : Int), -1)] ++ (l1 ++ ([(4, (b : Int), -1)] ++ (l2 ++ [(5, (b : Int), 3)])))) ∨ (¬ FORK σ b ∧ sG σ (laR σ b) = 103 ∧ TEL σ d 3 b (jmpT σ b) tl) ∨ (¬ FORK σ b ∧ sG σ (laR σ b) ≠ 103 ∧ gOnI (sG σ (laR σ b)) ∧ TEL σ d 3 b (fallT σ b) tl) ∨ (¬ FORK σ b ∧ (sG σ (laR σ b) ≠ 103 ∧ ¬ gOnI (sG σ (laR σ b))) ∧ tl = []))) ∨
    (w = 3 ∧ ∃ e, e < nE σ ∧ eF σ e = b ∧ eT σ e = k ∧ (((σ.1 30 e).toInt ≠ 0 ∧ l = [(8, k, -1)]) ∨ ((σ.1 30 e).toInt = 0 ∧ (σ.1 31 e).toInt ≠ 0 ∧ l = [(7, k, -1)]) ∨ (FW σ e ∧ MGp σ (eB σ e) ∧ l = [(6, k, -1)]) ∨ (FW σ e ∧ ¬ MGp σ (eB σ e) ∧ TEL σ d 0 (eB σ e) 0 l)))
/-- the world of lines -/
def LNW (σ : Sto) : Prop := BM σ ∧ QL σ ∧ BK σ ∧ ED σ ∧ GD σ ∧ ORD σ ∧ ABV σ ∧ STS σ ∧ 1 ≤ nB σ
theorem LNW.efi {σ : Sto} (h : LNW σ) : EFI σ := fun e he => by
  have q := h.2.2.2.1.1 e he
  have c1 := clamp_I q.1.1
  have c2 := clamp_I q.2.1.1
  unfold eF eT at q
  unfold eA eB
  omega
def SUBT (σ : Sto) (b c : Nat) : Prop := bL (σ.2 0 c) b = true
def SMk (σ : Sto) (b : Nat) (k : Int) (c : Nat) : Prop := SUBT σ b c ∧ ∀ m, MC σ b m → SUBT σ m c → oR σ m < k
def SIn (σ : Sto) (b c : Nat) : Prop := SUBT σ b c ∧ ∀ m, MC σ b m → ¬ SUBT σ m c
def SGo (σ : Sto) (b : Nat) (t : Int) (c : Nat) : Prop := ∃ e, FW σ e ∧ eA σ e = b ∧ (eB σ e : Int) = t ∧ ¬ MGp σ (eB σ e) ∧ SUBT σ (eB σ e) c
def csW (σ : Sto) (c : Nat) : Int := 12 + (sB σ (c + 1) - sB σ c)
theorem csW_nn {σ : Sto} (h : LNW σ) : ∀ c, c < nB σ → 12 ≤ csW σ c := fun c hc => by
  have := (h.2.2.2.2.2.2.2.1.2.2.2.1 c hc).2.1
  unfold csW sB
  omega
theorem LNW.tr {σ : Sto} (h : LNW σ) {b m c : Nat} (hm : CHs σ b m) (hc : c < nB σ) (q : SUBT σ m c) : SUBT σ b c := by
  obtain ⟨a1, a2, a3, _⟩ := hm.up h.2.2.2.2.2.2.1
  exact dom_tr h.2.2.2.2.1.2.1 hm.1 a1 hc q a3
theorem LNW.no {σ : Sto} (h : LNW σ) {b m : Nat} (hm : CHs σ b m) : ¬ SUBT σ m b := fun q => by
  obtain ⟨a1, a2, a3, _⟩ := hm.up h.2.2.2.2.2.2.1
  exact a2 (dom_as h.1 h.2.2.2.2.1 h.efi h.2.2.2.2.2.1 a1 hm.1 a3 q)
theorem LNW.dj {σ : Sto} (h : LNW σ) {b t u c : Nat} (h1 : CHs σ b t) (h2 : CHs σ b u) (hc : c < nB σ) (w1 : SUBT σ t c) (w2 : SUBT σ u c) : t = u := ch_dj h.1 h.2.2.2.2.1 h.efi h.2.2.2.2.2.1 h.2.2.2.2.2.2.1 h1 h2 hc w1 w2
theorem LNW.lt {σ : Sto} (h : LNW σ) {b t : Nat} (h1 : CHs σ b t) : oR σ b < oR σ t := ch_lt h.1 h.2.2.2.2.1 h.efi h.2.2.2.2.2.1 h.2.2.2.2.2.2.1 h1
theorem LNW.ch {σ : Sto} (h : LNW σ) {e : Nat} (he : FW σ e) (hm : ¬ MGp σ (eB σ e)) : CHs σ (eA σ e) (eB σ e) := ab1 h.1 h.2.2.2.2.1 h.efi h.2.2.2.2.2.1 h.2.2.2.2.2.2.1 he hm
theorem LNW.rf {σ : Sto} (h : LNW σ) {b : Nat} (hb : b < nB σ) : SUBT σ b b := dom_rf h.2.2.2.2.1.2.1 hb
section
variable {σ : Sto} {f : Nat → Int}
theorem w_mk (hf : ∀ c, c < nB σ → 0 ≤ f c) (b : Nat) (k : Int) : wS σ f (SMk σ b k) ≤ wS σ f (SUBT σ b) := wS_le hf (fun c _ q => q.1)
theorem w_in (hf : ∀ c, c < nB σ → 0 ≤ f c) (b : Nat) (k : Int) : wS σ f (SIn σ b) ≤ wS σ f (SMk σ b k) := wS_le hf (fun c _ q => ⟨q.1, fun m hm r => absurd r (q.2 m hm)⟩)
theorem w_mo (h : LNW σ) (hf : ∀ c, c < nB σ → 0 ≤ f c) {b m : Nat} {k : Int} (hm : MC σ b m) (hk : oR σ m < k) : wS σ f (SMk σ b (oR σ m)) + wS σ f (SUBT σ m) ≤ wS σ f (SMk σ b k) :=
  wS_two hf (fun c _ q => ⟨q.1, fun u hu r => Int.lt_trans (q.2 u hu r) hk⟩) (fun c hc q => ⟨h.tr hm.1 hc q, fun u hu r => by rw [h.dj hu.1 hm.1 hc r q]; exact hk⟩) (fun c _ q r => Int.lt_irrefl _ (q.2 m hm r))
theorem w_pt (h : LNW σ) (hf : ∀ c, c < nB σ → 0 ≤ f c) {b : Nat} (hb : b < nB σ) : f b ≤ wS σ f (SUBT σ b) :=
  Int.le_trans (wS_pt hf hb) (wS_le hf (fun c _ q => by rw [q]; exact h.rf hb))
theorem SGo.in_ (h : LNW σ) {b c : Nat} {t : Int} (hc : c < nB σ) (q : SGo σ b t c) : SIn σ b c := by
  obtain ⟨e, e1, e2, e3, e4, e5⟩ := q
  have ch := h.ch e1 e4
  rw [e2] at ch
  exact ⟨h.tr ch hc e5, fun m hm r => e4 (by rw [h.dj ch hm.1 hc e5 r]; exact hm.2)⟩
theorem SGo.nb (h : LNW σ) {b : Nat} {t : Int} : ¬ SGo σ b t b := fun ⟨e, e1, e2, e3, e4, e5⟩ => by
  have ch := h.ch e1 e4
  rw [e2] at ch
  exact h.no ch e5
theorem SGo.dj (h : LNW σ) {b c : Nat} {t u : Int} (hc : c < nB σ) (hne : t ≠ u) (q : SGo σ b t c) (r : SGo σ b u c) : False := by
  obtain ⟨e, e1, e2, e3, e4, e5⟩ := q
  obtain ⟨g, g1, g2, g3, g4, g5⟩ := r
  have c1 := h.ch e1 e4
  have c2 := h.ch g1 g4
  rw [e2] at c1
  rw [g2] at c2
  have := h.dj c1 c2 hc e5 g5
  rw [this] at e3
  omega
theorem w_two (h : LNW σ) (hf : ∀ c, c < nB σ → 0 ≤ f c) {b : Nat} (hb : b < nB σ) {t u : Int} (hne : t ≠ u) : f b + wS σ f (SGo σ b t) + wS σ f (SGo σ b u) ≤ wS σ f (SIn σ b) :=
  wS_three hf hb ⟨h.rf hb, fun m hm => h.no hm.1⟩ (fun c hc q => q.in_ h hc) (fun c hc q => q.in_ h hc) (fun c hc q r => q.dj h hc hne r) (SGo.nb h) (SGo.nb h)
theorem w_one (h : LNW σ) (hf : ∀ c, c < nB σ → 0 ≤ f c) {b : Nat} (hb : b < nB σ) (t : Int) : f b + wS σ f (SGo σ b t) ≤ wS σ f (SIn σ b) := by
  have := w_two h hf hb (t := t) (u := t + 1) (by omega)
  have := wS_nn (σ := σ) (S := SGo σ b (t + 1)) hf
  omega
theorem w_go (hf : ∀ c, c < nB σ → 0 ≤ f c) {b e : Nat} {t : Int} (he : FW σ e) (h1 : eA σ e = b) (h2 : (eB σ e : Int) = t) (h3 : ¬ MGp σ (eB σ e)) : wS σ f (SUBT σ (eB σ e)) ≤ wS σ f (SGo σ b t) :=
  wS_le hf (fun c _ q => ⟨e, he, h1, h2, h3, q⟩)
end
theorem MGp.cg {σ s : Sto} {t : Nat} (h : FR LNS [] σ s) : MGp s t ↔ MGp σ t := by
  unfold MGp FW KP nE eB
  rw [h.1 28 (by decide), h.1 29 (by decide), h.1 30 (by decide), h.1 31 (by decide), h.1 32 (by decide)]
theorem LNW.ql {σ s : Sto} (h : LNW σ) (g : FR LNS [] σ s) : QL s := h.2.1.cg (fun k hk => by rcases hk with z | z | z | z | z | z <;> subst z <;> exact g.1 _ (by decide))
theorem LNW.bk {σ s : Sto} (h : LNW σ) (g : FR LNS [] σ s) : BK s := h.2.2.1.cg (fun k hk => by rcases hk with z | z | z | z | z | z <;> subst z <;> exact g.1 _ (by decide)) (g.1 22 (by decide)) (g.1 23 (by decide)) (g.1 24 (by decide)) (g.1 26 (by decide))
