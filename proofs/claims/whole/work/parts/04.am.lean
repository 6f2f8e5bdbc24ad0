/-! the machine told by places: a heap is a list of cells, a reference is a place in it; 'ad' says where each place lies -/
def am_X (ad ad' : List Nat) : Prop := ∃ x, ad' = ad ++ x
theorem am_X.rf {ad : List Nat} : am_X ad ad := ⟨[], (List.append_nil ad).symm⟩
theorem am_X.tr {a b c : List Nat} (h : am_X a b) (k : am_X b c) : am_X a c := by
  obtain ⟨x, rfl⟩ := h
  obtain ⟨y, rfl⟩ := k
  exact ⟨x ++ y, by rw [List.append_assoc]⟩
theorem am_X.get {ad ad' : List Nat} (h : am_X ad ad') {k a : Nat} (hk : ad[k]? = some a) : ad'[k]? = some a := by
  obtain ⟨x, rfl⟩ := h
  rw [List.getElem?_append_left (List.getElem?_eq_some_iff.mp hk).1]
  exact hk
/-- a value and what it is in the machine: .retAddr k is the k-th string, .float _ the script, .double _ a reference that nobody looks into -/
def am_V (G : am_G) (ad : List Nat) (v w : Value) : Prop := match v with
  | .int x => w = .int x
  | .long x => w = .long x
  | .null => w = .null
  | .ref k => ∃ a, ad[k]? = some a ∧ w = .ref a
  | .retAddr k => w = .ref (G.2.2.1 k)
  | .float _ => w = .ref G.2.2.2.1
  | .double _ => ∃ q, w = .ref q
theorem am_V.mono {G : am_G} {ad ad' : List Nat} (h : am_X ad ad') {v w : Value} (hv : am_V G ad v w) : am_V G ad' v w := by
  cases v <;> first | exact hv | (obtain ⟨a, h1, h2⟩ := hv; exact ⟨a, h.get h1, h2⟩)
def am_S (G : am_G) (ad : List Nat) : List Value → List Value → Prop
  | [], ws => ws = []
  | v :: vs, ws => ∃ x xs, ws = x :: xs ∧ am_V G ad v x ∧ am_S G ad vs xs
theorem am_S.mono {G : am_G} {ad ad' : List Nat} (h : am_X ad ad') : ∀ {vs ws : List Value}, am_S G ad vs ws → am_S G ad' vs ws
  | [], _, hs => hs
  | _ :: _, _, ⟨x, xs, e, hv, hs⟩ => ⟨x, xs, e, hv.mono h, am_S.mono h hs⟩
theorem am_S.len {G : am_G} {ad : List Nat} : ∀ {vs ws : List Value}, am_S G ad vs ws → ws.length = vs.length
  | [], _, hs => by rw [show _ = [] from hs]
  | _ :: _, _, ⟨x, xs, e, _, hs⟩ => by rw [e, List.length_cons, List.length_cons, am_S.len hs]
theorem am_S.get {G : am_G} {ad : List Nat} : ∀ {vs ws : List Value} {k : Nat} {v : Value}, am_S G ad vs ws → vs[k]? = some v → ∃ w, ws[k]? = some w ∧ am_V G ad v w
  | [], _, _, _, _, h => by simp at h
  | _ :: _, _, 0, _, ⟨x, xs, e, hv, _⟩, h => by
    rw [List.getElem?_cons_zero] at h
    cases h
    exact ⟨x, by rw [e, List.getElem?_cons_zero], hv⟩
  | _ :: _, _, k + 1, _, ⟨x, xs, e, _, hs⟩, h => by
    rw [List.getElem?_cons_succ] at h
    obtain ⟨w, h1, h2⟩ := am_S.get hs h
    exact ⟨w, by rw [e, List.getElem?_cons_succ]; exact h1, h2⟩
theorem am_S.set {G : am_G} {ad : List Nat} {v w : Value} (hvw : am_V G ad v w) : ∀ {vs ws : List Value} {k : Nat}, am_S G ad vs ws → am_S G ad (vs.set k v) (ws.set k w)
  | [], _, _, hs => by rw [show _ = [] from hs]; rfl
  | _ :: _, _, 0, ⟨x, xs, e, _, hs⟩ => by rw [e]; exact ⟨w, xs, rfl, hvw, hs⟩
  | _ :: _, _, k + 1, ⟨x, xs, e, hv, hs⟩ => by rw [e]; exact ⟨x, _, rfl, hv, am_S.set hvw hs⟩
theorem am_S.app {G : am_G} {ad : List Nat} : ∀ {vs ws vs' ws' : List Value}, am_S G ad vs ws → am_S G ad vs' ws' → am_S G ad (vs ++ vs') (ws ++ ws')
  | [], _, _, _, hs, h' => by rw [show _ = [] from hs]; exact h'
  | _ :: _, _, _, _, ⟨x, xs, e, hv, hs⟩, h' => by rw [e]; exact ⟨x, _, rfl, hv, am_S.app hs h'⟩
theorem am_S.rev {G : am_G} {ad : List Nat} : ∀ {vs ws : List Value}, am_S G ad vs ws → am_S G ad vs.reverse ws.reverse
  | [], _, hs => by rw [show _ = [] from hs]; rfl
  | _ :: _, _, ⟨x, xs, e, hv, hs⟩ => by
    rw [e, List.reverse_cons, List.reverse_cons]
    exact am_S.app (am_S.rev hs) ⟨x, [], rfl, hv, rfl⟩
theorem am_S.split {G : am_G} {ad : List Nat} : ∀ {vs vs' ws : List Value}, am_S G ad (vs ++ vs') ws → ∃ a b, ws = a ++ b ∧ am_S G ad vs a ∧ am_S G ad vs' b
  | [], _, ws, h => ⟨[], ws, rfl, rfl, h⟩
  | _ :: _, _, _, ⟨x, xs, e, hv, hs⟩ => by
    obtain ⟨a, b, h1, h2, h3⟩ := am_S.split hs
    exact ⟨x :: a, b, by rw [e, h1]; rfl, ⟨x, a, rfl, hv, h2⟩, h3⟩
def am_O (ad : List Nat) (x y : Option Nat) : Prop := match x with
  | none => y = none
  | some k => ∃ a, ad[k]? = some a ∧ y = some a
theorem am_O.mono {ad ad' : List Nat} (h : am_X ad ad') {x y : Option Nat} (hv : am_O ad x y) : am_O ad' x y := by
  cases x with
  | none => exact hv
  | some k => obtain ⟨a, h1, h2⟩ := hv; exact ⟨a, h.get h1, h2⟩
/-- a cell and what it is in the machine -/
def am_E (G : am_G) (ad : List Nat) (e e' : va_E) : Prop := match e with
  | .inr o => ∃ fs, e' = .inr (o.1, fs) ∧ am_S G ad o.2 fs
  | .inl (k, n, .inr (.inr (.inr (.inr f)))) => ∃ f', e' = .inl (G.2.1 k, n, .inr (.inr (.inr (.inr f')))) ∧ ∀ j, am_O ad (f j) (f' j)
  | .inl (k, n, .inl f) => e' = .inl (G.2.1 k, n, .inl f)
  | .inl (k, n, .inr (.inl f)) => e' = .inl (G.2.1 k, n, .inr (.inl f))
  | .inl (_, _, .inr (.inr (.inl _))) => False
  | .inl (_, _, .inr (.inr (.inr (.inl _)))) => False
theorem am_E.mono {G : am_G} {ad ad' : List Nat} (h : am_X ad ad') {e e' : va_E} (hv : am_E G ad e e') : am_E G ad' e e' := by
  rcases e with ⟨k, n, f | f | f | f | f⟩ | o
  · exact hv
  · exact hv
  · exact hv
  · exact hv
  · obtain ⟨f', h1, h2⟩ := hv
    exact ⟨f', h1, fun j => (h2 j).mono h⟩
  · obtain ⟨fs, h1, h2⟩ := hv
    exact ⟨fs, h1, h2.mono h⟩
/-- the heap holds these cells, and they lie apart, above the floor -/
def am_W (G : am_G) (ad : List Nat) (h : am_H) (H : Heap) : Prop := ∃ ws : va_W, ws.length = h.length ∧ ad.length = h.length ∧ (∀ (k : Nat) (e : va_E), h[k]? = some e → ∃ a e', ad[k]? = some a ∧ ws[k]? = some (a, e') ∧ am_E G ad e e') ∧ va_P G.1 vwCl ws H ∧ va_D (am_A G) ws
theorem am_lt {α : Type} {l : List α} {k : Nat} {x : α} (h : l[k]? = some x) : k < l.length := (List.getElem?_eq_some_iff.mp h).1
/-- one cell is written -/
theorem am_W.set {G : am_G} {ad : List Nat} {h : am_H} {ws : va_W} {k a : Nat} {e e' : va_E} {H1 : Heap} (h1 : ws.length = h.length) (h2 : ad.length = h.length) (h3 : ∀ (k : Nat) (e : va_E), h[k]? = some e → ∃ a e', ad[k]? = some a ∧ ws[k]? = some (a, e') ∧ am_E G ad e e') (ha : ad[k]? = some a) (hE : am_E G ad e e') (hP : va_P G.1 vwCl (ws.set k (a, e')) H1) (hD : va_D (am_A G) (ws.set k (a, e'))) : am_W G ad (h.set k e) H1 := by
  refine ⟨ws.set k (a, e'), by rw [List.length_set, List.length_set]; exact h1, by rw [List.length_set]; exact h2, fun j x hj => ?_, hP, hD⟩
  have hl : k < h.length := by rw [← h2]; exact am_lt ha
  by_cases hjk : j = k
  · subst hjk
    rw [List.getElem?_set_self hl] at hj
    cases hj
    exact ⟨a, e', ha, List.getElem?_set_self (by rw [h1]; exact hl), hE⟩
  · rw [List.getElem?_set_ne (Ne.symm hjk)] at hj
    obtain ⟨b, f, g1, g2, g3⟩ := h3 j x hj
    exact ⟨b, f, g1, by rw [List.getElem?_set_ne (Ne.symm hjk)]; exact g2, g3⟩
/-- one cell is new -/
theorem am_W.push {G : am_G} {ad : List Nat} {h : am_H} {ws : va_W} {q : Nat} {e e' : va_E} {H1 : Heap} (h1 : ws.length = h.length) (h2 : ad.length = h.length) (h3 : ∀ (k : Nat) (e : va_E), h[k]? = some e → ∃ a e', ad[k]? = some a ∧ ws[k]? = some (a, e') ∧ am_E G ad e e') (hE : am_E G (ad ++ [q]) e e') (hP : va_P G.1 vwCl (ws ++ [(q, e')]) H1) (hD : va_D (am_A G) (ws ++ [(q, e')])) : am_W G (ad ++ [q]) (h ++ [e]) H1 := by
  refine ⟨ws ++ [(q, e')], by simp [h1], by simp [h2], fun j x hj => ?_, hP, hD⟩
  by_cases hjk : j < h.length
  · rw [List.getElem?_append_left hjk] at hj
    obtain ⟨b, f, g1, g2, g3⟩ := h3 j x hj
    have hX : am_X ad (ad ++ [q]) := ⟨[q], rfl⟩
    exact ⟨b, f, hX.get g1, by rw [List.getElem?_append_left (by rw [h1]; exact hjk)]; exact g2, g3.mono hX⟩
  · rw [List.getElem?_append_right (by omega)] at hj
    have hz : j - h.length = 0 := by
      have := am_lt hj
      simp at this
      omega
    rw [hz] at hj
    cases hj
    have hj2 : j = h.length := by omega
    subst hj2
    refine ⟨q, e', ?_, ?_, hE⟩
    · rw [← h2, List.getElem?_append_right (Nat.le_refl _), Nat.sub_self]
      rfl
    · rw [← h1, List.getElem?_append_right (Nat.le_refl _), Nat.sub_self]
      rfl
/-- the locals: .double 0 is a local that nobody reads -/
abbrev am_u : Value := .double 0
def am_L (G : am_G) (ad : List Nat) (L : List Value) (ls : Array Slot) (nL : Nat) : Prop := ls.size = nL ∧ lv_wf ls ∧ ∀ (i : Nat) (v : Value), L[i]? = some v → v ≠ am_u → ∃ w, am_V G ad v w ∧ ls[i]? = some (.val w)
theorem am_L.mono {G : am_G} {ad ad' : List Nat} (h : am_X ad ad') {L : List Value} {ls : Array Slot} {nL : Nat} (hL : am_L G ad L ls nL) : am_L G ad' L ls nL :=
  ⟨hL.1, hL.2.1, fun i v h1 h2 => by obtain ⟨w, h3, h4⟩ := hL.2.2 i v h1 h2; exact ⟨w, h3.mono h, h4⟩⟩
def am_long (v : Value) : Bool := match v with
  | .long _ => true
  | _ => false
def am_clr (L : List Value) : Nat → List Value
  | 0 => L
  | j + 1 => match L[j]? with
    | some v => if am_long v then L.set j am_u else L
    | none => L
def am_st (L : List Value) (i : Nat) (v : Value) : List Value := (am_clr L i).set i v
def am_st2 (L : List Value) (i : Nat) (v : Value) : List Value := ((am_clr L i).set i v).set (i + 1) am_u
theorem am_clr_get {L : List Value} {i j : Nat} {v : Value} (h : (am_clr L i)[j]? = some v) (hv : v ≠ am_u) : L[j]? = some v ∧ (j + 1 = i → am_long v = false) := by
  cases i with
  | zero => exact ⟨h, fun z => by omega⟩
  | succ i =>
    simp only [am_clr] at h
    cases hL : L[i]? with
    | none =>
      rw [hL] at h
      refine ⟨h, fun z => ?_⟩
      have : j = i := by omega
      subst this
      rw [hL] at h
      cases h
    | some x =>
      rw [hL] at h
      dsimp only at h
      by_cases hx : am_long x = true
      · rw [if_pos hx] at h
        by_cases hj : j = i
        · subst hj
          rw [List.getElem?_set_self (am_lt hL)] at h
          cases h
          exact absurd rfl hv
        · rw [List.getElem?_set_ne (Ne.symm hj)] at h
          exact ⟨h, fun z => absurd (by omega) hj⟩
      · rw [if_neg hx] at h
        refine ⟨h, fun z => ?_⟩
        have : j = i := by omega
        subst this
        rw [hL] at h
        cases h
        simpa using hx
theorem am_V.cat {G : am_G} {ad : List Nat} {v w : Value} (h : am_V G ad v w) (hv : am_long v = false) : w.category = 1 := by
  cases v with
  | int x => rw [show w = _ from h]; rfl
  | long x => cases hv
  | null => rw [show w = _ from h]; rfl
  | ref k => obtain ⟨a, -, e⟩ := h; rw [e]; rfl
  | retAddr k => rw [show w = _ from h]; rfl
  | float b => rw [show w = _ from h]; rfl
  | double b => obtain ⟨a, e⟩ := h; rw [e]; rfl
theorem am_V.cat2 {G : am_G} {ad : List Nat} {v w : Value} (h : am_V G ad v w) (hv : am_long v = true) : w.category = 2 := by
  cases v with
  | long x => rw [show w = _ from h]; rfl
  | _ => cases hv
theorem am_store1 {G : am_G} {ad : List Nat} {L : List Value} {ls : Array Slot} {nL i : Nat} {v w : Value} (h : am_L G ad L ls nL) (hi : i < nL) (hvw : am_V G ad v w) (hv : am_long v = false) :
    ∃ ls', storeLocals ls i w = some ls' ∧ am_L G ad (am_st L i v) ls' nL := by
  obtain ⟨hs, hwf, hg⟩ := h
  have hc := hvw.cat hv
  obtain ⟨ls', e', h'⟩ := lv_store1 (l := []) (v := w) ⟨hs, hwf, fun q hq => by cases hq⟩ hi hc
  refine ⟨ls', e', h'.1, h'.2.1, fun j u hj hu => ?_⟩
  by_cases hji : j = i
  · subst hji
    have hl : j < (am_clr L j).length := by
      have := am_lt hj
      unfold am_st at this
      rw [List.length_set] at this
      exact this
    unfold am_st at hj
    rw [List.getElem?_set_self hl] at hj
    cases hj
    exact ⟨w, hvw, h'.2.2 (j, w) (by simp)⟩
  · unfold am_st at hj
    rw [List.getElem?_set_ne (Ne.symm hji)] at hj
    obtain ⟨g1, g2⟩ := am_clr_get hj hu
    obtain ⟨x, x1, x2⟩ := hg j u g1 hu
    obtain ⟨ls2, e2, k2⟩ := lv_store1 (l := [(j, x)]) (v := w) ⟨hs, hwf, fun q hq => by rw [List.mem_singleton] at hq; subst hq; exact x2⟩ hi hc
    have hee : ls2 = ls' := Option.some.inj (e2.symm.trans e')
    subst hee
    refine ⟨x, x1, k2.2.2 (j, x) (List.mem_cons_of_mem _ (List.mem_filter.mpr ⟨by simp, ?_⟩))⟩
    by_cases hq : j + 1 = i
    · have := x1.cat (g2 hq)
      simp [hji, this]
    · simp [hji, hq]
theorem am_store2 {G : am_G} {ad : List Nat} {L : List Value} {ls : Array Slot} {nL i : Nat} {v w : Value} (h : am_L G ad L ls nL) (hi : i + 1 < nL) (hvw : am_V G ad v w) (hv : am_long v = true) :
    ∃ ls', storeLocals ls i w = some ls' ∧ am_L G ad (am_st2 L i v) ls' nL := by
  obtain ⟨hs, hwf, hg⟩ := h
  have hc := hvw.cat2 hv
  obtain ⟨ls', e', h'⟩ := lv_store2 (l := []) (v := w) ⟨hs, hwf, fun q hq => by cases hq⟩ hi hc
  refine ⟨ls', e', h'.1, h'.2.1, fun j u hj hu => ?_⟩
  unfold am_st2 at hj
  by_cases hj1 : j = i + 1
  · subst hj1
    have hl : i + 1 < ((am_clr L i).set i v).length := by
      have := am_lt hj
      rw [List.length_set] at this
      exact this
    rw [List.getElem?_set_self hl] at hj
    cases hj
    exact absurd rfl hu
  · rw [List.getElem?_set_ne (Ne.symm hj1)] at hj
    by_cases hji : j = i
    · subst hji
      have hl : j < (am_clr L j).length := by
        have := am_lt hj
        rw [List.length_set] at this
        exact this
      rw [List.getElem?_set_self hl] at hj
      cases hj
      exact ⟨w, hvw, h'.2.2 (j, w) (by simp)⟩
    · rw [List.getElem?_set_ne (Ne.symm hji)] at hj
      obtain ⟨g1, g2⟩ := am_clr_get hj hu
      obtain ⟨x, x1, x2⟩ := hg j u g1 hu
      obtain ⟨ls2, e2, k2⟩ := lv_store2 (l := [(j, x)]) (v := w) ⟨hs, hwf, fun q hq => by rw [List.mem_singleton] at hq; subst hq; exact x2⟩ hi hc
      have hee : ls2 = ls' := Option.some.inj (e2.symm.trans e')
      subst hee
      refine ⟨x, x1, k2.2.2 (j, x) (List.mem_cons_of_mem _ (List.mem_filter.mpr ⟨by simp, ?_⟩))⟩
      by_cases hq : j + 1 = i
      · have := x1.cat (g2 hq)
        simp [hji, hj1, this]
      · simp [hji, hj1, hq]

/-- a method's walk: the machine, the launch, the start, the frame, what is owed, where things lie, the places at the start, how many locals -/
abbrev am_C : Type := Program × Launch × Env × Room × State × MethodId × Array Value × List Frame × Method × Code × (State → Prop) × am_G × List Nat × Nat
def am_Z (X : am_C) (pc : Nat) (L st : List Value) (h : am_H) (cs sl : Nat) : Prop := match X with
  | (p, l, e, R, s, m, args, below, meth, c, Q, G, ad0, nL) => ∀ (H : Heap) (locs : List Loc) (ad : List Nat) (ls : Array Slot) (st' : List Value), am_X ad0 ad → am_W G ad h H → va_S (am_A G) s.heap H locs → am_L G ad L ls nL → am_S G ad st st' → W p l e R s m args below meth c H locs cs sl Q (F0 m pc ls st')
def am_B (X : am_C) (own : String) (cc : ByteArray) : Prop := match X with
  | (p, _, _, _, s, m, args, _, _, c, _, G, _, nL) => p.tables.exec = Jvm.exec ∧ c.code = cc ∧ c.maxLocals = nL ∧ s.vm.findClass own = some m.cls ∧ (∀ w ∈ am_tbl, w.before args s = true) ∧ va_K G.1 vwCl (am_tys G) s ∧ G.2.2.2.2 ≤ s.heap.size ∧ am_K G s
section AmRows
variable {X : am_C} {own : String} {cc : ByteArray} {pc : Nat} {L st : List Value} {h : am_H} {cs sl : Nat}
theorem am_at {pc' : Nat} (e : pc' = pc) (k : am_Z X pc L st h cs sl) : am_Z X pc' L st h cs sl := e ▸ k
theorem am_wide {k n : Nat} (h1 : cs ≤ k) (h2 : sl ≤ n) (kk : am_Z X pc L st h k n) : am_Z X pc L st h cs sl := by
  obtain ⟨p, l, e, R, s, m, args, below, meth, c, Q, G, ad0, nL⟩ := X
  exact fun H locs ad ls st' a1 a2 a3 a4 a5 => W.widen h1 h2 (kk H locs ad ls st' a1 a2 a3 a4 a5)
theorem am_iconst (hB : am_B X own cc) {n : Int} {v : Int32} (hdg : decode cc pc = .ok (.iconst n, 1)) (hv : Int32.ofInt n = v) (k : am_Z X (pc + 1) L (.int v :: st) h cs sl) : am_Z X pc L (st) h cs sl := by
  obtain ⟨p, l, e, R, s, m, args, below, meth, c, Q, G, ad0, nL⟩ := X
  obtain ⟨hx, hb, -⟩ := hB
  intro H locs ad ls st' a1 a2 a3 a4 a5
  exact lv_iconst hx hb hdg hv (k H locs ad ls _ a1 a2 a3 a4 ⟨_, _, rfl, rfl, a5⟩)
theorem am_bipush (hB : am_B X own cc) {n : Int} {v : Int32} (hdg : decode cc pc = .ok (.bipush n, 2)) (hv : (Int8.ofInt n).toInt32 = v) (k : am_Z X (pc + 2) L (.int v :: st) h cs sl) : am_Z X pc L (st) h cs sl := by
  obtain ⟨p, l, e, R, s, m, args, below, meth, c, Q, G, ad0, nL⟩ := X
  obtain ⟨hx, hb, -⟩ := hB
  intro H locs ad ls st' a1 a2 a3 a4 a5
  exact lv_bipush hx hb hdg hv (k H locs ad ls _ a1 a2 a3 a4 ⟨_, _, rfl, rfl, a5⟩)
theorem am_sipush (hB : am_B X own cc) {n : Int} {v : Int32} (hdg : decode cc pc = .ok (.sipush n, 3)) (hv : (Int16.ofInt n).toInt32 = v) (k : am_Z X (pc + 3) L (.int v :: st) h cs sl) : am_Z X pc L (st) h cs sl := by
  obtain ⟨p, l, e, R, s, m, args, below, meth, c, Q, G, ad0, nL⟩ := X
  obtain ⟨hx, hb, -⟩ := hB
  intro H locs ad ls st' a1 a2 a3 a4 a5
  exact lv_sipush hx hb hdg hv (k H locs ad ls _ a1 a2 a3 a4 ⟨_, _, rfl, rfl, a5⟩)
theorem am_lconst (hB : am_B X own cc) {n : Fin 2} {v : Int64} (hdg : decode cc pc = .ok (.lconst n, 1)) (hv : Int64.ofNat (n : Nat) = v) (k : am_Z X (pc + 1) L (.long v :: st) h cs sl) : am_Z X pc L (st) h cs sl := by
  obtain ⟨p, l, e, R, s, m, args, below, meth, c, Q, G, ad0, nL⟩ := X
  obtain ⟨hx, hb, -⟩ := hB
  intro H locs ad ls st' a1 a2 a3 a4 a5
  exact lv_lconst hx hb hdg hv (k H locs ad ls _ a1 a2 a3 a4 ⟨_, _, rfl, rfl, a5⟩)
theorem am_null (hB : am_B X own cc) (hdg : decode cc pc = .ok (.aconst_null, 1)) (k : am_Z X (pc + 1) L (.null :: st) h cs sl) : am_Z X pc L (st) h cs sl := by
  obtain ⟨p, l, e, R, s, m, args, below, meth, c, Q, G, ad0, nL⟩ := X
  obtain ⟨hx, hb, -⟩ := hB
  intro H locs ad ls st' a1 a2 a3 a4 a5
  exact lv_null hx hb hdg (k H locs ad ls _ a1 a2 a3 a4 ⟨_, _, rfl, rfl, a5⟩)
theorem am_iadd (hB : am_B X own cc) {x y : Int32} (hdg : decode cc pc = .ok (.iadd, 1)) (k : am_Z X (pc + 1) L (.int (x + y) :: st) h cs sl) : am_Z X pc L (.int y :: .int x :: st) h cs sl := by
  obtain ⟨p, l, e, R, s, m, args, below, meth, c, Q, G, ad0, nL⟩ := X
  obtain ⟨hx, hb, -⟩ := hB
  intro H locs ad ls st' a1 a2 a3 a4 a5
  obtain ⟨_, _, rfl, rfl, ⟨_, _, rfl, rfl, a5⟩⟩ := a5
  exact lv_iadd hx hb hdg (k H locs ad ls _ a1 a2 a3 a4 ⟨_, _, rfl, rfl, a5⟩)
theorem am_isub (hB : am_B X own cc) {x y : Int32} (hdg : decode cc pc = .ok (.isub, 1)) (k : am_Z X (pc + 1) L (.int (x - y) :: st) h cs sl) : am_Z X pc L (.int y :: .int x :: st) h cs sl := by
  obtain ⟨p, l, e, R, s, m, args, below, meth, c, Q, G, ad0, nL⟩ := X
  obtain ⟨hx, hb, -⟩ := hB
  intro H locs ad ls st' a1 a2 a3 a4 a5
  obtain ⟨_, _, rfl, rfl, ⟨_, _, rfl, rfl, a5⟩⟩ := a5
  exact lv_isub hx hb hdg (k H locs ad ls _ a1 a2 a3 a4 ⟨_, _, rfl, rfl, a5⟩)
theorem am_imul (hB : am_B X own cc) {x y : Int32} (hdg : decode cc pc = .ok (.imul, 1)) (k : am_Z X (pc + 1) L (.int (x * y) :: st) h cs sl) : am_Z X pc L (.int y :: .int x :: st) h cs sl := by
  obtain ⟨p, l, e, R, s, m, args, below, meth, c, Q, G, ad0, nL⟩ := X
  obtain ⟨hx, hb, -⟩ := hB
  intro H locs ad ls st' a1 a2 a3 a4 a5
  obtain ⟨_, _, rfl, rfl, ⟨_, _, rfl, rfl, a5⟩⟩ := a5
  exact lv_imul hx hb hdg (k H locs ad ls _ a1 a2 a3 a4 ⟨_, _, rfl, rfl, a5⟩)
theorem am_iand (hB : am_B X own cc) {x y : Int32} (hdg : decode cc pc = .ok (.iand, 1)) (k : am_Z X (pc + 1) L (.int (x &&& y) :: st) h cs sl) : am_Z X pc L (.int y :: .int x :: st) h cs sl := by
  obtain ⟨p, l, e, R, s, m, args, below, meth, c, Q, G, ad0, nL⟩ := X
  obtain ⟨hx, hb, -⟩ := hB
  intro H locs ad ls st' a1 a2 a3 a4 a5
  obtain ⟨_, _, rfl, rfl, ⟨_, _, rfl, rfl, a5⟩⟩ := a5
  exact lv_iand hx hb hdg (k H locs ad ls _ a1 a2 a3 a4 ⟨_, _, rfl, rfl, a5⟩)
theorem am_ior (hB : am_B X own cc) {x y : Int32} (hdg : decode cc pc = .ok (.ior, 1)) (k : am_Z X (pc + 1) L (.int (x ||| y) :: st) h cs sl) : am_Z X pc L (.int y :: .int x :: st) h cs sl := by
  obtain ⟨p, l, e, R, s, m, args, below, meth, c, Q, G, ad0, nL⟩ := X
  obtain ⟨hx, hb, -⟩ := hB
  intro H locs ad ls st' a1 a2 a3 a4 a5
  obtain ⟨_, _, rfl, rfl, ⟨_, _, rfl, rfl, a5⟩⟩ := a5
  exact lv_ior hx hb hdg (k H locs ad ls _ a1 a2 a3 a4 ⟨_, _, rfl, rfl, a5⟩)
theorem am_ixor (hB : am_B X own cc) {x y : Int32} (hdg : decode cc pc = .ok (.ixor, 1)) (k : am_Z X (pc + 1) L (.int (x ^^^ y) :: st) h cs sl) : am_Z X pc L (.int y :: .int x :: st) h cs sl := by
  obtain ⟨p, l, e, R, s, m, args, below, meth, c, Q, G, ad0, nL⟩ := X
  obtain ⟨hx, hb, -⟩ := hB
  intro H locs ad ls st' a1 a2 a3 a4 a5
  obtain ⟨_, _, rfl, rfl, ⟨_, _, rfl, rfl, a5⟩⟩ := a5
  exact lv_ixor hx hb hdg (k H locs ad ls _ a1 a2 a3 a4 ⟨_, _, rfl, rfl, a5⟩)
theorem am_ishl (hB : am_B X own cc) {x y : Int32} (hdg : decode cc pc = .ok (.ishl, 1)) (k : am_Z X (pc + 1) L (.int (x <<< (y &&& 31)) :: st) h cs sl) : am_Z X pc L (.int y :: .int x :: st) h cs sl := by
  obtain ⟨p, l, e, R, s, m, args, below, meth, c, Q, G, ad0, nL⟩ := X
  obtain ⟨hx, hb, -⟩ := hB
  intro H locs ad ls st' a1 a2 a3 a4 a5
  obtain ⟨_, _, rfl, rfl, ⟨_, _, rfl, rfl, a5⟩⟩ := a5
  exact lv_ishl hx hb hdg (k H locs ad ls _ a1 a2 a3 a4 ⟨_, _, rfl, rfl, a5⟩)
theorem am_ishr (hB : am_B X own cc) {x y : Int32} (hdg : decode cc pc = .ok (.ishr, 1)) (k : am_Z X (pc + 1) L (.int (x >>> (y &&& 31)) :: st) h cs sl) : am_Z X pc L (.int y :: .int x :: st) h cs sl := by
  obtain ⟨p, l, e, R, s, m, args, below, meth, c, Q, G, ad0, nL⟩ := X
  obtain ⟨hx, hb, -⟩ := hB
  intro H locs ad ls st' a1 a2 a3 a4 a5
  obtain ⟨_, _, rfl, rfl, ⟨_, _, rfl, rfl, a5⟩⟩ := a5
  exact lv_ishr hx hb hdg (k H locs ad ls _ a1 a2 a3 a4 ⟨_, _, rfl, rfl, a5⟩)
theorem am_idiv (hB : am_B X own cc) {x y : Int32} (hdg : decode cc pc = .ok (.idiv, 1)) (hne : ¬ y = 0) (k : am_Z X (pc + 1) L (.int (x / y) :: st) h cs sl) : am_Z X pc L (.int y :: .int x :: st) h cs sl := by
  obtain ⟨p, l, e, R, s, m, args, below, meth, c, Q, G, ad0, nL⟩ := X
  obtain ⟨hx, hb, -⟩ := hB
  intro H locs ad ls st' a1 a2 a3 a4 a5
  obtain ⟨_, _, rfl, rfl, ⟨_, _, rfl, rfl, a5⟩⟩ := a5
  exact lv_idiv hx hb hdg hne (k H locs ad ls _ a1 a2 a3 a4 ⟨_, _, rfl, rfl, a5⟩)
theorem am_irem (hB : am_B X own cc) {x y : Int32} (hdg : decode cc pc = .ok (.irem, 1)) (hne : ¬ y = 0) (k : am_Z X (pc + 1) L (.int (x - x / y * y) :: st) h cs sl) : am_Z X pc L (.int y :: .int x :: st) h cs sl := by
  obtain ⟨p, l, e, R, s, m, args, below, meth, c, Q, G, ad0, nL⟩ := X
  obtain ⟨hx, hb, -⟩ := hB
  intro H locs ad ls st' a1 a2 a3 a4 a5
  obtain ⟨_, _, rfl, rfl, ⟨_, _, rfl, rfl, a5⟩⟩ := a5
  exact lv_irem hx hb hdg hne (k H locs ad ls _ a1 a2 a3 a4 ⟨_, _, rfl, rfl, a5⟩)
theorem am_ladd (hB : am_B X own cc) {x y : Int64} (hdg : decode cc pc = .ok (.ladd, 1)) (k : am_Z X (pc + 1) L (.long (x + y) :: st) h cs sl) : am_Z X pc L (.long y :: .long x :: st) h cs sl := by
  obtain ⟨p, l, e, R, s, m, args, below, meth, c, Q, G, ad0, nL⟩ := X
  obtain ⟨hx, hb, -⟩ := hB
  intro H locs ad ls st' a1 a2 a3 a4 a5
  obtain ⟨_, _, rfl, rfl, ⟨_, _, rfl, rfl, a5⟩⟩ := a5
  exact lv_ladd hx hb hdg (k H locs ad ls _ a1 a2 a3 a4 ⟨_, _, rfl, rfl, a5⟩)
theorem am_lsub (hB : am_B X own cc) {x y : Int64} (hdg : decode cc pc = .ok (.lsub, 1)) (k : am_Z X (pc + 1) L (.long (x - y) :: st) h cs sl) : am_Z X pc L (.long y :: .long x :: st) h cs sl := by
  obtain ⟨p, l, e, R, s, m, args, below, meth, c, Q, G, ad0, nL⟩ := X
  obtain ⟨hx, hb, -⟩ := hB
  intro H locs ad ls st' a1 a2 a3 a4 a5
  obtain ⟨_, _, rfl, rfl, ⟨_, _, rfl, rfl, a5⟩⟩ := a5
  exact lv_lsub hx hb hdg (k H locs ad ls _ a1 a2 a3 a4 ⟨_, _, rfl, rfl, a5⟩)
theorem am_lmul (hB : am_B X own cc) {x y : Int64} (hdg : decode cc pc = .ok (.lmul, 1)) (k : am_Z X (pc + 1) L (.long (x * y) :: st) h cs sl) : am_Z X pc L (.long y :: .long x :: st) h cs sl := by
  obtain ⟨p, l, e, R, s, m, args, below, meth, c, Q, G, ad0, nL⟩ := X
  obtain ⟨hx, hb, -⟩ := hB
  intro H locs ad ls st' a1 a2 a3 a4 a5
  obtain ⟨_, _, rfl, rfl, ⟨_, _, rfl, rfl, a5⟩⟩ := a5
  exact lv_lmul hx hb hdg (k H locs ad ls _ a1 a2 a3 a4 ⟨_, _, rfl, rfl, a5⟩)
theorem am_land (hB : am_B X own cc) {x y : Int64} (hdg : decode cc pc = .ok (.land, 1)) (k : am_Z X (pc + 1) L (.long (x &&& y) :: st) h cs sl) : am_Z X pc L (.long y :: .long x :: st) h cs sl := by
  obtain ⟨p, l, e, R, s, m, args, below, meth, c, Q, G, ad0, nL⟩ := X
  obtain ⟨hx, hb, -⟩ := hB
  intro H locs ad ls st' a1 a2 a3 a4 a5
  obtain ⟨_, _, rfl, rfl, ⟨_, _, rfl, rfl, a5⟩⟩ := a5
  exact lv_land hx hb hdg (k H locs ad ls _ a1 a2 a3 a4 ⟨_, _, rfl, rfl, a5⟩)
theorem am_lor (hB : am_B X own cc) {x y : Int64} (hdg : decode cc pc = .ok (.lor, 1)) (k : am_Z X (pc + 1) L (.long (x ||| y) :: st) h cs sl) : am_Z X pc L (.long y :: .long x :: st) h cs sl := by
  obtain ⟨p, l, e, R, s, m, args, below, meth, c, Q, G, ad0, nL⟩ := X
  obtain ⟨hx, hb, -⟩ := hB
  intro H locs ad ls st' a1 a2 a3 a4 a5
  obtain ⟨_, _, rfl, rfl, ⟨_, _, rfl, rfl, a5⟩⟩ := a5
  exact lv_lor hx hb hdg (k H locs ad ls _ a1 a2 a3 a4 ⟨_, _, rfl, rfl, a5⟩)
theorem am_lxor (hB : am_B X own cc) {x y : Int64} (hdg : decode cc pc = .ok (.lxor, 1)) (k : am_Z X (pc + 1) L (.long (x ^^^ y) :: st) h cs sl) : am_Z X pc L (.long y :: .long x :: st) h cs sl := by
  obtain ⟨p, l, e, R, s, m, args, below, meth, c, Q, G, ad0, nL⟩ := X
  obtain ⟨hx, hb, -⟩ := hB
  intro H locs ad ls st' a1 a2 a3 a4 a5
  obtain ⟨_, _, rfl, rfl, ⟨_, _, rfl, rfl, a5⟩⟩ := a5
  exact lv_lxor hx hb hdg (k H locs ad ls _ a1 a2 a3 a4 ⟨_, _, rfl, rfl, a5⟩)
theorem am_i2l (hB : am_B X own cc) {x : Int32} (hdg : decode cc pc = .ok (.i2l, 1)) (k : am_Z X (pc + 1) L (.long x.toInt64 :: st) h cs sl) : am_Z X pc L (.int x :: st) h cs sl := by
  obtain ⟨p, l, e, R, s, m, args, below, meth, c, Q, G, ad0, nL⟩ := X
  obtain ⟨hx, hb, -⟩ := hB
  intro H locs ad ls st' a1 a2 a3 a4 a5
  obtain ⟨_, _, rfl, rfl, a5⟩ := a5
  exact lv_i2l hx hb hdg rfl (k H locs ad ls _ a1 a2 a3 a4 ⟨_, _, rfl, rfl, a5⟩)
theorem am_l2i (hB : am_B X own cc) {x : Int64} (hdg : decode cc pc = .ok (.l2i, 1)) (k : am_Z X (pc + 1) L (.int x.toInt32 :: st) h cs sl) : am_Z X pc L (.long x :: st) h cs sl := by
  obtain ⟨p, l, e, R, s, m, args, below, meth, c, Q, G, ad0, nL⟩ := X
  obtain ⟨hx, hb, -⟩ := hB
  intro H locs ad ls st' a1 a2 a3 a4 a5
  obtain ⟨_, _, rfl, rfl, a5⟩ := a5
  exact lv_l2i hx hb hdg rfl (k H locs ad ls _ a1 a2 a3 a4 ⟨_, _, rfl, rfl, a5⟩)
theorem am_i2c (hB : am_B X own cc) {x : Int32} (hdg : decode cc pc = .ok (.i2c, 1)) (k : am_Z X (pc + 1) L (.int (x.toUInt32 % 65536).toInt32 :: st) h cs sl) : am_Z X pc L (.int x :: st) h cs sl := by
  obtain ⟨p, l, e, R, s, m, args, below, meth, c, Q, G, ad0, nL⟩ := X
  obtain ⟨hx, hb, -⟩ := hB
  intro H locs ad ls st' a1 a2 a3 a4 a5
  obtain ⟨_, _, rfl, rfl, a5⟩ := a5
  exact lv_i2c hx hb hdg rfl (k H locs ad ls _ a1 a2 a3 a4 ⟨_, _, rfl, rfl, a5⟩)
theorem am_lushr (hB : am_B X own cc) {x : Int64} {y : Int32} (hdg : decode cc pc = .ok (.lushr, 1)) (k : am_Z X (pc + 1) L (.long (x.toUInt64 >>> (y.toInt64.toUInt64 &&& Int64.toUInt64 63)).toInt64 :: st) h cs sl) : am_Z X pc L (.int y :: .long x :: st) h cs sl := by
  obtain ⟨p, l, e, R, s, m, args, below, meth, c, Q, G, ad0, nL⟩ := X
  obtain ⟨hx, hb, -⟩ := hB
  intro H locs ad ls st' a1 a2 a3 a4 a5
  obtain ⟨_, _, rfl, rfl, ⟨_, _, rfl, rfl, a5⟩⟩ := a5
  exact lv_lushr hx hb hdg rfl (k H locs ad ls _ a1 a2 a3 a4 ⟨_, _, rfl, rfl, a5⟩)
theorem am_lshr (hB : am_B X own cc) {x : Int64} {y : Int32} (hdg : decode cc pc = .ok (.lshr, 1)) (k : am_Z X (pc + 1) L (.long (x >>> (y.toInt64 &&& 63)) :: st) h cs sl) : am_Z X pc L (.int y :: .long x :: st) h cs sl := by
  obtain ⟨p, l, e, R, s, m, args, below, meth, c, Q, G, ad0, nL⟩ := X
  obtain ⟨hx, hb, -⟩ := hB
  intro H locs ad ls st' a1 a2 a3 a4 a5
  obtain ⟨_, _, rfl, rfl, ⟨_, _, rfl, rfl, a5⟩⟩ := a5
  exact lv_lshr hx hb hdg rfl (k H locs ad ls _ a1 a2 a3 a4 ⟨_, _, rfl, rfl, a5⟩)
theorem am_lshl (hB : am_B X own cc) {x : Int64} {y : Int32} (hdg : decode cc pc = .ok (.lshl, 1)) (k : am_Z X (pc + 1) L (.long (x <<< (y.toInt64 &&& 63)) :: st) h cs sl) : am_Z X pc L (.int y :: .long x :: st) h cs sl := by
  obtain ⟨p, l, e, R, s, m, args, below, meth, c, Q, G, ad0, nL⟩ := X
  obtain ⟨hx, hb, -⟩ := hB
  intro H locs ad ls st' a1 a2 a3 a4 a5
  obtain ⟨_, _, rfl, rfl, ⟨_, _, rfl, rfl, a5⟩⟩ := a5
  exact lv_lshl hx hb hdg rfl (k H locs ad ls _ a1 a2 a3 a4 ⟨_, _, rfl, rfl, a5⟩)
theorem am_ineg (hB : am_B X own cc) {x : Int32} (hdg : decode cc pc = .ok (.ineg, 1)) (k : am_Z X (pc + 1) L (.int (-x) :: st) h cs sl) : am_Z X pc L (.int x :: st) h cs sl := by
  obtain ⟨p, l, e, R, s, m, args, below, meth, c, Q, G, ad0, nL⟩ := X
  obtain ⟨hx, hb, -⟩ := hB
  intro H locs ad ls st' a1 a2 a3 a4 a5
  obtain ⟨_, _, rfl, rfl, a5⟩ := a5
  exact lv_ineg hx hb hdg (k H locs ad ls _ a1 a2 a3 a4 ⟨_, _, rfl, rfl, a5⟩)
theorem am_lcmp (hB : am_B X own cc) {x y : Int64} (hdg : decode cc pc = .ok (.lcmp, 1)) (k : am_Z X (pc + 1) L (.int (lg_cmp x y) :: st) h cs sl) : am_Z X pc L (.long y :: .long x :: st) h cs sl := by
  obtain ⟨p, l, e, R, s, m, args, below, meth, c, Q, G, ad0, nL⟩ := X
  obtain ⟨hx, hb, -⟩ := hB
  intro H locs ad ls st' a1 a2 a3 a4 a5
  obtain ⟨_, _, rfl, rfl, ⟨_, _, rfl, rfl, a5⟩⟩ := a5
  exact W.lcmp hx hb hdg (k H locs ad ls _ a1 a2 a3 a4 ⟨_, _, rfl, rfl, a5⟩)
theorem am_dup (hB : am_B X own cc) {v : Value} (hdg : decode cc pc = .ok (.dup, 1)) (hv : am_long v = false) (k : am_Z X (pc + 1) L (v :: v :: st) h cs sl) : am_Z X pc L (v :: st) h cs sl := by
  obtain ⟨p, l, e, R, s, m, args, below, meth, c, Q, G, ad0, nL⟩ := X
  obtain ⟨hx, hb, -⟩ := hB
  intro H locs ad ls st' a1 a2 a3 a4 a5
  obtain ⟨w0, _, rfl, hw0, a5⟩ := a5
  exact lv_dup hx hb hdg (hw0.cat hv) (k H locs ad ls _ a1 a2 a3 a4 ⟨_, _, rfl, hw0, _, _, rfl, hw0, a5⟩)
theorem am_pop (hB : am_B X own cc) {v : Value} (hdg : decode cc pc = .ok (.pop, 1)) (hv : am_long v = false) (k : am_Z X (pc + 1) L (st) h cs sl) : am_Z X pc L (v :: st) h cs sl := by
  obtain ⟨p, l, e, R, s, m, args, below, meth, c, Q, G, ad0, nL⟩ := X
  obtain ⟨hx, hb, -⟩ := hB
  intro H locs ad ls st' a1 a2 a3 a4 a5
  obtain ⟨w0, _, rfl, hw0, a5⟩ := a5
  exact lv_pop hx hb hdg (hw0.cat hv) (k H locs ad ls _ a1 a2 a3 a4 a5)
theorem am_dup_x1 (hB : am_B X own cc) {v u : Value} (hdg : decode cc pc = .ok (.dup_x1, 1)) (hv : am_long v = false) (hu : am_long u = false) (k : am_Z X (pc + 1) L (v :: u :: v :: st) h cs sl) : am_Z X pc L (v :: u :: st) h cs sl := by
  obtain ⟨p, l, e, R, s, m, args, below, meth, c, Q, G, ad0, nL⟩ := X
  obtain ⟨hx, hb, -⟩ := hB
  intro H locs ad ls st' a1 a2 a3 a4 a5
  obtain ⟨w0, _, rfl, hw0, ⟨w1, _, rfl, hw1, a5⟩⟩ := a5
  exact lv_dup_x1 hx hb hdg (hw0.cat hv) (hw1.cat hu) (k H locs ad ls _ a1 a2 a3 a4 ⟨_, _, rfl, hw0, _, _, rfl, hw1, _, _, rfl, hw0, a5⟩)
theorem am_dup_x2 (hB : am_B X own cc) {v u t : Value} (hdg : decode cc pc = .ok (.dup_x2, 1)) (hv : am_long v = false) (hu : am_long u = false) (ht : am_long t = false) (k : am_Z X (pc + 1) L (v :: u :: t :: v :: st) h cs sl) : am_Z X pc L (v :: u :: t :: st) h cs sl := by
  obtain ⟨p, l, e, R, s, m, args, below, meth, c, Q, G, ad0, nL⟩ := X
  obtain ⟨hx, hb, -⟩ := hB
  intro H locs ad ls st' a1 a2 a3 a4 a5
  obtain ⟨w0, _, rfl, hw0, ⟨w1, _, rfl, hw1, ⟨w2, _, rfl, hw2, a5⟩⟩⟩ := a5
  exact lv_dup_x2 hx hb hdg (hw0.cat hv) (hw1.cat hu) (hw2.cat ht) (k H locs ad ls _ a1 a2 a3 a4 ⟨_, _, rfl, hw0, _, _, rfl, hw1, _, _, rfl, hw2, _, _, rfl, hw0, a5⟩)
theorem am_dup2 (hB : am_B X own cc) {v u : Value} (hdg : decode cc pc = .ok (.dup2, 1)) (hv : am_long v = false) (hu : am_long u = false) (k : am_Z X (pc + 1) L (v :: u :: v :: u :: st) h cs sl) : am_Z X pc L (v :: u :: st) h cs sl := by
  obtain ⟨p, l, e, R, s, m, args, below, meth, c, Q, G, ad0, nL⟩ := X
  obtain ⟨hx, hb, -⟩ := hB
  intro H locs ad ls st' a1 a2 a3 a4 a5
  obtain ⟨w0, _, rfl, hw0, ⟨w1, _, rfl, hw1, a5⟩⟩ := a5
  exact lv_dup2_11 hx hb hdg (hw0.cat hv) (hw1.cat hu) (k H locs ad ls _ a1 a2 a3 a4 ⟨_, _, rfl, hw0, _, _, rfl, hw1, _, _, rfl, hw0, _, _, rfl, hw1, a5⟩)
theorem am_iload_n (hB : am_B X own cc) {k : Fin 4} {i : Nat} {x : Int32} (hdg : decode cc pc = .ok (.iload_n k, 1)) (hi : (k : Nat) = i) (hl : L[i]? = some (.int x)) (k : am_Z X (pc + 1) L (.int x :: st) h cs sl) : am_Z X pc L st h cs sl := by
  obtain ⟨p, l, e, R, s, m, args, below, meth, c, Q, G, ad0, nL⟩ := X
  obtain ⟨hx, hb, -⟩ := hB
  intro H locs ad ls st' a1 a2 a3 a4 a5
  obtain ⟨_, rfl, g⟩ := a4.2.2 i _ hl (fun z => by cases z)
  exact lv_iload_n hx hb hdg hi g (k H locs ad ls _ a1 a2 a3 a4 ⟨_, _, rfl, rfl, a5⟩)
theorem am_iload (hB : am_B X own cc) {i : Nat} {x : Int32} (hdg : decode cc pc = .ok (.iload i, 2)) (hl : L[i]? = some (.int x)) (k : am_Z X (pc + 2) L (.int x :: st) h cs sl) : am_Z X pc L st h cs sl := by
  obtain ⟨p, l, e, R, s, m, args, below, meth, c, Q, G, ad0, nL⟩ := X
  obtain ⟨hx, hb, -⟩ := hB
  intro H locs ad ls st' a1 a2 a3 a4 a5
  obtain ⟨_, rfl, g⟩ := a4.2.2 i _ hl (fun z => by cases z)
  exact lv_iload hx hb hdg g (k H locs ad ls _ a1 a2 a3 a4 ⟨_, _, rfl, rfl, a5⟩)
theorem am_lload_n (hB : am_B X own cc) {k : Fin 4} {i : Nat} {x : Int64} (hdg : decode cc pc = .ok (.lload_n k, 1)) (hi : (k : Nat) = i) (hl : L[i]? = some (.long x)) (k : am_Z X (pc + 1) L (.long x :: st) h cs sl) : am_Z X pc L st h cs sl := by
  obtain ⟨p, l, e, R, s, m, args, below, meth, c, Q, G, ad0, nL⟩ := X
  obtain ⟨hx, hb, -⟩ := hB
  intro H locs ad ls st' a1 a2 a3 a4 a5
  obtain ⟨_, rfl, g⟩ := a4.2.2 i _ hl (fun z => by cases z)
  exact lv_lload_n hx hb hdg hi g (k H locs ad ls _ a1 a2 a3 a4 ⟨_, _, rfl, rfl, a5⟩)
theorem am_lload (hB : am_B X own cc) {i : Nat} {x : Int64} (hdg : decode cc pc = .ok (.lload i, 2)) (hl : L[i]? = some (.long x)) (k : am_Z X (pc + 2) L (.long x :: st) h cs sl) : am_Z X pc L st h cs sl := by
  obtain ⟨p, l, e, R, s, m, args, below, meth, c, Q, G, ad0, nL⟩ := X
  obtain ⟨hx, hb, -⟩ := hB
  intro H locs ad ls st' a1 a2 a3 a4 a5
  obtain ⟨_, rfl, g⟩ := a4.2.2 i _ hl (fun z => by cases z)
  exact lv_lload hx hb hdg g (k H locs ad ls _ a1 a2 a3 a4 ⟨_, _, rfl, rfl, a5⟩)
def am_ref (v : Value) : Bool := match v with
  | .int _ => false
  | .long _ => false
  | _ => true
theorem am_V.isr {G : am_G} {ad : List Nat} {v w : Value} (hv : am_V G ad v w) (hr : am_ref v = true) : w = .null ∨ ∃ a, w = .ref a := by
  cases v with
  | int x => cases hr
  | long x => cases hr
  | null => exact Or.inl hv
  | ref k => obtain ⟨a, -, e⟩ := hv; exact Or.inr ⟨a, e⟩
  | retAddr k => exact Or.inr ⟨_, hv⟩
  | float b => exact Or.inr ⟨_, hv⟩
  | double b => obtain ⟨a, e⟩ := hv; exact Or.inr ⟨a, e⟩
def am_ld (v : Value) : Bool := match v with
  | .null => true
  | .ref _ => true
  | .retAddr _ => true
  | .float _ => true
  | _ => false
theorem am_ld_ref {v : Value} (h : am_ld v = true) : am_ref v = true := by
  cases v <;> first | rfl | cases h
theorem am_ld_u {v : Value} (h : am_ld v = true) : v ≠ am_u := fun z => by
  subst z
  cases h
theorem am_ref_long {v : Value} (h : am_ref v = true) : am_long v = false := by
  cases v <;> first | rfl | cases h
theorem am_aload_n (hB : am_B X own cc) {k : Fin 4} {i : Nat} {v : Value} (hdg : decode cc pc = .ok (.aload_n k, 1)) (hi : (k : Nat) = i) (hl : L[i]? = some v) (hr : am_ld v = true) (k : am_Z X (pc + 1) L (v :: st) h cs sl) : am_Z X pc L st h cs sl := by
  obtain ⟨p, l, e, R, s, m, args, below, meth, c, Q, G, ad0, nL⟩ := X
  obtain ⟨hx, hb, -⟩ := hB
  intro H locs ad ls st' a1 a2 a3 a4 a5
  obtain ⟨w0, hw0, g⟩ := a4.2.2 i _ hl (am_ld_u hr)
  rcases hw0.isr (am_ld_ref hr) with rfl | ⟨a, rfl⟩
  · exact lv_aload_nN hx hb hdg hi g (k H locs ad ls _ a1 a2 a3 a4 ⟨_, _, rfl, hw0, a5⟩)
  · exact lv_aload_n hx hb hdg hi g (k H locs ad ls _ a1 a2 a3 a4 ⟨_, _, rfl, hw0, a5⟩)
theorem am_aload (hB : am_B X own cc) {i : Nat} {v : Value} (hdg : decode cc pc = .ok (.aload i, 2)) (hl : L[i]? = some v) (hr : am_ld v = true) (k : am_Z X (pc + 2) L (v :: st) h cs sl) : am_Z X pc L st h cs sl := by
  obtain ⟨p, l, e, R, s, m, args, below, meth, c, Q, G, ad0, nL⟩ := X
  obtain ⟨hx, hb, -⟩ := hB
  intro H locs ad ls st' a1 a2 a3 a4 a5
  obtain ⟨w0, hw0, g⟩ := a4.2.2 i _ hl (am_ld_u hr)
  rcases hw0.isr (am_ld_ref hr) with rfl | ⟨a, rfl⟩
  · exact lv_aloadN hx hb hdg g (k H locs ad ls _ a1 a2 a3 a4 ⟨_, _, rfl, hw0, a5⟩)
  · exact lv_aload hx hb hdg g (k H locs ad ls _ a1 a2 a3 a4 ⟨_, _, rfl, hw0, a5⟩)
theorem am_istore_n (hB : am_B X own cc) {k : Fin 4} {i : Nat} {x : Int32} {L' : List Value} (hdg : decode cc pc = .ok (.istore_n k, 1)) (hi : (k : Nat) = i) (hn : i < X.2.2.2.2.2.2.2.2.2.2.2.2.2) (hL : am_st L i (.int x) = L') (k : am_Z X (pc + 1) L' st h cs sl) : am_Z X pc L (.int x :: st) h cs sl := by
  obtain ⟨p, l, e, R, s, m, args, below, meth, c, Q, G, ad0, nL⟩ := X
  obtain ⟨hx, hb, -⟩ := hB
  intro H locs ad ls st' a1 a2 a3 a4 a5
  obtain ⟨_, _, rfl, rfl, a5⟩ := a5
  subst hL
  subst hi
  obtain ⟨ls', e', g⟩ := am_store1 (v := .int x) a4 hn rfl rfl
  intro T hT Y
  obtain ⟨t, b1, b2⟩ := k H locs ad ls' _ a1 a2 a3 g a5 T hT Y
  refine ⟨t, ?_, b2⟩
  jvm_step Y.here [Y.here.top, ↓top_set Y.here.top, hx, hb, hdg, e']
  exact b1
theorem am_istore (hB : am_B X own cc) {i : Nat} {x : Int32} {L' : List Value} (hdg : decode cc pc = .ok (.istore i, 2)) (hn : i < X.2.2.2.2.2.2.2.2.2.2.2.2.2) (hL : am_st L i (.int x) = L') (k : am_Z X (pc + 2) L' st h cs sl) : am_Z X pc L (.int x :: st) h cs sl := by
  obtain ⟨p, l, e, R, s, m, args, below, meth, c, Q, G, ad0, nL⟩ := X
  obtain ⟨hx, hb, -⟩ := hB
  intro H locs ad ls st' a1 a2 a3 a4 a5
  obtain ⟨_, _, rfl, rfl, a5⟩ := a5
  subst hL
  obtain ⟨ls', e', g⟩ := am_store1 (v := .int x) a4 hn rfl rfl
  intro T hT Y
  obtain ⟨t, b1, b2⟩ := k H locs ad ls' _ a1 a2 a3 g a5 T hT Y
  refine ⟨t, ?_, b2⟩
  jvm_step Y.here [Y.here.top, ↓top_set Y.here.top, hx, hb, hdg, e']
  exact b1
theorem am_lstore_n (hB : am_B X own cc) {k : Fin 4} {i : Nat} {x : Int64} {L' : List Value} (hdg : decode cc pc = .ok (.lstore_n k, 1)) (hi : (k : Nat) = i) (hn : i + 1 < X.2.2.2.2.2.2.2.2.2.2.2.2.2) (hL : am_st2 L i (.long x) = L') (k : am_Z X (pc + 1) L' st h cs sl) : am_Z X pc L (.long x :: st) h cs sl := by
  obtain ⟨p, l, e, R, s, m, args, below, meth, c, Q, G, ad0, nL⟩ := X
  obtain ⟨hx, hb, -⟩ := hB
  intro H locs ad ls st' a1 a2 a3 a4 a5
  obtain ⟨_, _, rfl, rfl, a5⟩ := a5
  subst hL
  subst hi
  obtain ⟨ls', e', g⟩ := am_store2 (v := .long x) a4 hn rfl rfl
  intro T hT Y
  obtain ⟨t, b1, b2⟩ := k H locs ad ls' _ a1 a2 a3 g a5 T hT Y
  refine ⟨t, ?_, b2⟩
  jvm_step Y.here [Y.here.top, ↓top_set Y.here.top, hx, hb, hdg, e']
  exact b1
theorem am_lstore (hB : am_B X own cc) {i : Nat} {x : Int64} {L' : List Value} (hdg : decode cc pc = .ok (.lstore i, 2)) (hn : i + 1 < X.2.2.2.2.2.2.2.2.2.2.2.2.2) (hL : am_st2 L i (.long x) = L') (k : am_Z X (pc + 2) L' st h cs sl) : am_Z X pc L (.long x :: st) h cs sl := by
  obtain ⟨p, l, e, R, s, m, args, below, meth, c, Q, G, ad0, nL⟩ := X
  obtain ⟨hx, hb, -⟩ := hB
  intro H locs ad ls st' a1 a2 a3 a4 a5
  obtain ⟨_, _, rfl, rfl, a5⟩ := a5
  subst hL
  obtain ⟨ls', e', g⟩ := am_store2 (v := .long x) a4 hn rfl rfl
  intro T hT Y
  obtain ⟨t, b1, b2⟩ := k H locs ad ls' _ a1 a2 a3 g a5 T hT Y
  refine ⟨t, ?_, b2⟩
  jvm_step Y.here [Y.here.top, ↓top_set Y.here.top, hx, hb, hdg, e']
  exact b1
theorem am_astore_n (hB : am_B X own cc) {k : Fin 4} {i : Nat} {v : Value} {L' : List Value} (hdg : decode cc pc = .ok (.astore_n k, 1)) (hi : (k : Nat) = i) (hn : i < X.2.2.2.2.2.2.2.2.2.2.2.2.2) (hr : am_ref v = true) (hL : am_st L i v = L') (k : am_Z X (pc + 1) L' st h cs sl) : am_Z X pc L (v :: st) h cs sl := by
  obtain ⟨p, l, e, R, s, m, args, below, meth, c, Q, G, ad0, nL⟩ := X
  obtain ⟨hx, hb, -⟩ := hB
  intro H locs ad ls st' a1 a2 a3 a4 a5
  obtain ⟨w0, _, rfl, hw0, a5⟩ := a5
  subst hL
  subst hi
  obtain ⟨ls', e', g⟩ := am_store1 a4 hn hw0 (am_ref_long hr)
  intro T hT Y
  obtain ⟨t, b1, b2⟩ := k H locs ad ls' _ a1 a2 a3 g a5 T hT Y
  refine ⟨t, ?_, b2⟩
  rcases hw0.isr hr with rfl | ⟨a, rfl⟩
  · jvm_step Y.here [Y.here.top, ↓top_set Y.here.top, hx, hb, hdg, e', Value.isRef]
    exact b1
  · jvm_step Y.here [Y.here.top, ↓top_set Y.here.top, hx, hb, hdg, e', Value.isRef]
    exact b1
theorem am_astore (hB : am_B X own cc) {i : Nat} {v : Value} {L' : List Value} (hdg : decode cc pc = .ok (.astore i, 2)) (hn : i < X.2.2.2.2.2.2.2.2.2.2.2.2.2) (hr : am_ref v = true) (hL : am_st L i v = L') (k : am_Z X (pc + 2) L' st h cs sl) : am_Z X pc L (v :: st) h cs sl := by
  obtain ⟨p, l, e, R, s, m, args, below, meth, c, Q, G, ad0, nL⟩ := X
  obtain ⟨hx, hb, -⟩ := hB
  intro H locs ad ls st' a1 a2 a3 a4 a5
  obtain ⟨w0, _, rfl, hw0, a5⟩ := a5
  subst hL
  obtain ⟨ls', e', g⟩ := am_store1 a4 hn hw0 (am_ref_long hr)
  intro T hT Y
  obtain ⟨t, b1, b2⟩ := k H locs ad ls' _ a1 a2 a3 g a5 T hT Y
  refine ⟨t, ?_, b2⟩
  rcases hw0.isr hr with rfl | ⟨a, rfl⟩
  · jvm_step Y.here [Y.here.top, ↓top_set Y.here.top, hx, hb, hdg, e', Value.isRef]
    exact b1
  · jvm_step Y.here [Y.here.top, ↓top_set Y.here.top, hx, hb, hdg, e', Value.isRef]
    exact b1
theorem am_iinc (hB : am_B X own cc) {i : Nat} {n : Int} {x v : Int32} {L' : List Value} (hdg : decode cc pc = .ok (.iinc i n, 3)) (hl : L[i]? = some (.int x)) (hv : x + Int32.ofInt n = v) (hn : i < X.2.2.2.2.2.2.2.2.2.2.2.2.2) (hL : am_st L i (.int v) = L') (k : am_Z X (pc + 3) L' st h cs sl) : am_Z X pc L st h cs sl := by
  obtain ⟨p, l, e, R, s, m, args, below, meth, c, Q, G, ad0, nL⟩ := X
  obtain ⟨hx, hb, -⟩ := hB
  intro H locs ad ls st' a1 a2 a3 a4 a5
  obtain ⟨_, rfl, hg⟩ := a4.2.2 i _ hl (fun z => by cases z)
  subst hL
  subst hv
  obtain ⟨ls', e', g⟩ := am_store1 (v := .int (x + Int32.ofInt n)) a4 hn rfl rfl
  intro T hT Y
  obtain ⟨t, b1, b2⟩ := k H locs ad ls' _ a1 a2 a3 g a5 T hT Y
  refine ⟨t, ?_, b2⟩
  jvm_step Y.here [Y.here.top, ↓top_set Y.here.top, hx, hb, hdg, hg, e']
  exact b1
theorem am_if_eq (hB : am_B X own cc) {x : Int32} {off : Int} {tgt : Nat} (hdg : decode cc pc = .ok (.ifCond .eq off, 3)) (ht : (pc : Int) + off = (tgt : Int)) (kt : x = 0 → am_Z X tgt L st h cs sl) (kf : ¬ x = 0 → am_Z X (pc + 3) L st h cs sl) : am_Z X pc L (.int x :: st) h cs sl := by
  obtain ⟨p, l, e, R, s, m, args, below, meth, c, Q, G, ad0, nL⟩ := X
  obtain ⟨hx, hb, -⟩ := hB
  intro H locs ad ls st' a1 a2 a3 a4 a5
  obtain ⟨_, _, rfl, rfl, a5⟩ := a5
  exact lv_if_eq hx hb hdg ht (fun z => kt z H locs ad ls _ a1 a2 a3 a4 a5) (fun z => kf z H locs ad ls _ a1 a2 a3 a4 a5)
theorem am_icmp_eq (hB : am_B X own cc) {x y : Int32} {off : Int} {tgt : Nat} (hdg : decode cc pc = .ok (.if_icmp .eq off, 3)) (ht : (pc : Int) + off = (tgt : Int)) (kt : x = y → am_Z X tgt L st h cs sl) (kf : ¬ x = y → am_Z X (pc + 3) L st h cs sl) : am_Z X pc L (.int y :: .int x :: st) h cs sl := by
  obtain ⟨p, l, e, R, s, m, args, below, meth, c, Q, G, ad0, nL⟩ := X
  obtain ⟨hx, hb, -⟩ := hB
  intro H locs ad ls st' a1 a2 a3 a4 a5
  obtain ⟨_, _, rfl, rfl, ⟨_, _, rfl, rfl, a5⟩⟩ := a5
  exact lv_icmp_eq hx hb hdg ht (fun z => kt z H locs ad ls _ a1 a2 a3 a4 a5) (fun z => kf z H locs ad ls _ a1 a2 a3 a4 a5)
theorem am_if_ne (hB : am_B X own cc) {x : Int32} {off : Int} {tgt : Nat} (hdg : decode cc pc = .ok (.ifCond .ne off, 3)) (ht : (pc : Int) + off = (tgt : Int)) (kt : ¬ x = 0 → am_Z X tgt L st h cs sl) (kf : x = 0 → am_Z X (pc + 3) L st h cs sl) : am_Z X pc L (.int x :: st) h cs sl := by
  obtain ⟨p, l, e, R, s, m, args, below, meth, c, Q, G, ad0, nL⟩ := X
  obtain ⟨hx, hb, -⟩ := hB
  intro H locs ad ls st' a1 a2 a3 a4 a5
  obtain ⟨_, _, rfl, rfl, a5⟩ := a5
  exact lv_if_ne hx hb hdg ht (fun z => kt z H locs ad ls _ a1 a2 a3 a4 a5) (fun z => kf z H locs ad ls _ a1 a2 a3 a4 a5)
theorem am_icmp_ne (hB : am_B X own cc) {x y : Int32} {off : Int} {tgt : Nat} (hdg : decode cc pc = .ok (.if_icmp .ne off, 3)) (ht : (pc : Int) + off = (tgt : Int)) (kt : ¬ x = y → am_Z X tgt L st h cs sl) (kf : x = y → am_Z X (pc + 3) L st h cs sl) : am_Z X pc L (.int y :: .int x :: st) h cs sl := by
  obtain ⟨p, l, e, R, s, m, args, below, meth, c, Q, G, ad0, nL⟩ := X
  obtain ⟨hx, hb, -⟩ := hB
  intro H locs ad ls st' a1 a2 a3 a4 a5
  obtain ⟨_, _, rfl, rfl, ⟨_, _, rfl, rfl, a5⟩⟩ := a5
  exact lv_icmp_ne hx hb hdg ht (fun z => kt z H locs ad ls _ a1 a2 a3 a4 a5) (fun z => kf z H locs ad ls _ a1 a2 a3 a4 a5)
theorem am_if_lt (hB : am_B X own cc) {x : Int32} {off : Int} {tgt : Nat} (hdg : decode cc pc = .ok (.ifCond .lt off, 3)) (ht : (pc : Int) + off = (tgt : Int)) (kt : x < 0 → am_Z X tgt L st h cs sl) (kf : ¬ x < 0 → am_Z X (pc + 3) L st h cs sl) : am_Z X pc L (.int x :: st) h cs sl := by
  obtain ⟨p, l, e, R, s, m, args, below, meth, c, Q, G, ad0, nL⟩ := X
  obtain ⟨hx, hb, -⟩ := hB
  intro H locs ad ls st' a1 a2 a3 a4 a5
  obtain ⟨_, _, rfl, rfl, a5⟩ := a5
  exact lv_if_lt hx hb hdg ht (fun z => kt z H locs ad ls _ a1 a2 a3 a4 a5) (fun z => kf z H locs ad ls _ a1 a2 a3 a4 a5)
theorem am_icmp_lt (hB : am_B X own cc) {x y : Int32} {off : Int} {tgt : Nat} (hdg : decode cc pc = .ok (.if_icmp .lt off, 3)) (ht : (pc : Int) + off = (tgt : Int)) (kt : x < y → am_Z X tgt L st h cs sl) (kf : ¬ x < y → am_Z X (pc + 3) L st h cs sl) : am_Z X pc L (.int y :: .int x :: st) h cs sl := by
  obtain ⟨p, l, e, R, s, m, args, below, meth, c, Q, G, ad0, nL⟩ := X
  obtain ⟨hx, hb, -⟩ := hB
  intro H locs ad ls st' a1 a2 a3 a4 a5
  obtain ⟨_, _, rfl, rfl, ⟨_, _, rfl, rfl, a5⟩⟩ := a5
  exact lv_icmp_lt hx hb hdg ht (fun z => kt z H locs ad ls _ a1 a2 a3 a4 a5) (fun z => kf z H locs ad ls _ a1 a2 a3 a4 a5)
theorem am_if_ge (hB : am_B X own cc) {x : Int32} {off : Int} {tgt : Nat} (hdg : decode cc pc = .ok (.ifCond .ge off, 3)) (ht : (pc : Int) + off = (tgt : Int)) (kt : 0 ≤ x → am_Z X tgt L st h cs sl) (kf : ¬ 0 ≤ x → am_Z X (pc + 3) L st h cs sl) : am_Z X pc L (.int x :: st) h cs sl := by
  obtain ⟨p, l, e, R, s, m, args, below, meth, c, Q, G, ad0, nL⟩ := X
  obtain ⟨hx, hb, -⟩ := hB
  intro H locs ad ls st' a1 a2 a3 a4 a5
  obtain ⟨_, _, rfl, rfl, a5⟩ := a5
  exact lv_if_ge hx hb hdg ht (fun z => kt z H locs ad ls _ a1 a2 a3 a4 a5) (fun z => kf z H locs ad ls _ a1 a2 a3 a4 a5)
theorem am_icmp_ge (hB : am_B X own cc) {x y : Int32} {off : Int} {tgt : Nat} (hdg : decode cc pc = .ok (.if_icmp .ge off, 3)) (ht : (pc : Int) + off = (tgt : Int)) (kt : y ≤ x → am_Z X tgt L st h cs sl) (kf : ¬ y ≤ x → am_Z X (pc + 3) L st h cs sl) : am_Z X pc L (.int y :: .int x :: st) h cs sl := by
  obtain ⟨p, l, e, R, s, m, args, below, meth, c, Q, G, ad0, nL⟩ := X
  obtain ⟨hx, hb, -⟩ := hB
  intro H locs ad ls st' a1 a2 a3 a4 a5
  obtain ⟨_, _, rfl, rfl, ⟨_, _, rfl, rfl, a5⟩⟩ := a5
  exact lv_icmp_ge hx hb hdg ht (fun z => kt z H locs ad ls _ a1 a2 a3 a4 a5) (fun z => kf z H locs ad ls _ a1 a2 a3 a4 a5)
theorem am_if_gt (hB : am_B X own cc) {x : Int32} {off : Int} {tgt : Nat} (hdg : decode cc pc = .ok (.ifCond .gt off, 3)) (ht : (pc : Int) + off = (tgt : Int)) (kt : 0 < x → am_Z X tgt L st h cs sl) (kf : ¬ 0 < x → am_Z X (pc + 3) L st h cs sl) : am_Z X pc L (.int x :: st) h cs sl := by
  obtain ⟨p, l, e, R, s, m, args, below, meth, c, Q, G, ad0, nL⟩ := X
  obtain ⟨hx, hb, -⟩ := hB
  intro H locs ad ls st' a1 a2 a3 a4 a5
  obtain ⟨_, _, rfl, rfl, a5⟩ := a5
  exact lv_if_gt hx hb hdg ht (fun z => kt z H locs ad ls _ a1 a2 a3 a4 a5) (fun z => kf z H locs ad ls _ a1 a2 a3 a4 a5)
theorem am_icmp_gt (hB : am_B X own cc) {x y : Int32} {off : Int} {tgt : Nat} (hdg : decode cc pc = .ok (.if_icmp .gt off, 3)) (ht : (pc : Int) + off = (tgt : Int)) (kt : y < x → am_Z X tgt L st h cs sl) (kf : ¬ y < x → am_Z X (pc + 3) L st h cs sl) : am_Z X pc L (.int y :: .int x :: st) h cs sl := by
  obtain ⟨p, l, e, R, s, m, args, below, meth, c, Q, G, ad0, nL⟩ := X
  obtain ⟨hx, hb, -⟩ := hB
  intro H locs ad ls st' a1 a2 a3 a4 a5
  obtain ⟨_, _, rfl, rfl, ⟨_, _, rfl, rfl, a5⟩⟩ := a5
  exact lv_icmp_gt hx hb hdg ht (fun z => kt z H locs ad ls _ a1 a2 a3 a4 a5) (fun z => kf z H locs ad ls _ a1 a2 a3 a4 a5)
theorem am_if_le (hB : am_B X own cc) {x : Int32} {off : Int} {tgt : Nat} (hdg : decode cc pc = .ok (.ifCond .le off, 3)) (ht : (pc : Int) + off = (tgt : Int)) (kt : x ≤ 0 → am_Z X tgt L st h cs sl) (kf : ¬ x ≤ 0 → am_Z X (pc + 3) L st h cs sl) : am_Z X pc L (.int x :: st) h cs sl := by
  obtain ⟨p, l, e, R, s, m, args, below, meth, c, Q, G, ad0, nL⟩ := X
  obtain ⟨hx, hb, -⟩ := hB
  intro H locs ad ls st' a1 a2 a3 a4 a5
  obtain ⟨_, _, rfl, rfl, a5⟩ := a5
  exact lv_if_le hx hb hdg ht (fun z => kt z H locs ad ls _ a1 a2 a3 a4 a5) (fun z => kf z H locs ad ls _ a1 a2 a3 a4 a5)
theorem am_icmp_le (hB : am_B X own cc) {x y : Int32} {off : Int} {tgt : Nat} (hdg : decode cc pc = .ok (.if_icmp .le off, 3)) (ht : (pc : Int) + off = (tgt : Int)) (kt : x ≤ y → am_Z X tgt L st h cs sl) (kf : ¬ x ≤ y → am_Z X (pc + 3) L st h cs sl) : am_Z X pc L (.int y :: .int x :: st) h cs sl := by
  obtain ⟨p, l, e, R, s, m, args, below, meth, c, Q, G, ad0, nL⟩ := X
  obtain ⟨hx, hb, -⟩ := hB
  intro H locs ad ls st' a1 a2 a3 a4 a5
  obtain ⟨_, _, rfl, rfl, ⟨_, _, rfl, rfl, a5⟩⟩ := a5
  exact lv_icmp_le hx hb hdg ht (fun z => kt z H locs ad ls _ a1 a2 a3 a4 a5) (fun z => kf z H locs ad ls _ a1 a2 a3 a4 a5)
theorem am_goto (hB : am_B X own cc) {off : Int} {tgt : Nat} (hdg : decode cc pc = .ok (.goto off, 3)) (ht : (pc : Int) + off = (tgt : Int)) (k : am_Z X tgt L st h cs sl) : am_Z X pc L st h cs sl := by
  obtain ⟨p, l, e, R, s, m, args, below, meth, c, Q, G, ad0, nL⟩ := X
  obtain ⟨hx, hb, -⟩ := hB
  intro H locs ad ls st' a1 a2 a3 a4 a5
  exact lv_goto hx hb hdg ht (k H locs ad ls _ a1 a2 a3 a4 a5)
theorem am_ifnullN (hB : am_B X own cc) {off : Int} {tgt : Nat} (hdg : decode cc pc = .ok (.ifnull off, 3)) (ht : (pc : Int) + off = (tgt : Int)) (k : am_Z X tgt L st h cs sl) : am_Z X pc L (.null :: st) h cs sl := by
  obtain ⟨p, l, e, R, s, m, args, below, meth, c, Q, G, ad0, nL⟩ := X
  obtain ⟨hx, hb, -⟩ := hB
  intro H locs ad ls st' a1 a2 a3 a4 a5
  obtain ⟨_, _, rfl, rfl, a5⟩ := a5
  exact lv_ifnullN hx hb hdg ht (k H locs ad ls _ a1 a2 a3 a4 a5)
theorem am_ifnullR (hB : am_B X own cc) {off : Int} {z : Nat} (hdg : decode cc pc = .ok (.ifnull off, 3)) (k : am_Z X (pc + 3) L st h cs sl) : am_Z X pc L (.ref z :: st) h cs sl := by
  obtain ⟨p, l, e, R, s, m, args, below, meth, c, Q, G, ad0, nL⟩ := X
  obtain ⟨hx, hb, -⟩ := hB
  intro H locs ad ls st' a1 a2 a3 a4 a5
  obtain ⟨_, _, rfl, ⟨a, -, rfl⟩, a5⟩ := a5
  exact lv_ifnull hx hb hdg (k H locs ad ls _ a1 a2 a3 a4 a5)
theorem am_ifnonnullN (hB : am_B X own cc) {off : Int} (hdg : decode cc pc = .ok (.ifnonnull off, 3)) (k : am_Z X (pc + 3) L st h cs sl) : am_Z X pc L (.null :: st) h cs sl := by
  obtain ⟨p, l, e, R, s, m, args, below, meth, c, Q, G, ad0, nL⟩ := X
  obtain ⟨hx, hb, -⟩ := hB
  intro H locs ad ls st' a1 a2 a3 a4 a5
  obtain ⟨_, _, rfl, rfl, a5⟩ := a5
  exact lv_ifnonnullN hx hb hdg (k H locs ad ls _ a1 a2 a3 a4 a5)
theorem am_ifnonnullR (hB : am_B X own cc) {off : Int} {z : Nat} {tgt : Nat} (hdg : decode cc pc = .ok (.ifnonnull off, 3)) (ht : (pc : Int) + off = (tgt : Int)) (k : am_Z X tgt L st h cs sl) : am_Z X pc L (.ref z :: st) h cs sl := by
  obtain ⟨p, l, e, R, s, m, args, below, meth, c, Q, G, ad0, nL⟩ := X
  obtain ⟨hx, hb, -⟩ := hB
  intro H locs ad ls st' a1 a2 a3 a4 a5
  obtain ⟨_, _, rfl, ⟨a, -, rfl⟩, a5⟩ := a5
  exact lv_ifnonnull hx hb hdg ht (k H locs ad ls _ a1 a2 a3 a4 a5)
theorem am_tableOut (hB : am_B X own cc) {dflt lo hi : Int} {offs : Array Int} {len : Nat} {x : Int32} {tgt : Nat} (hdg : decode cc pc = .ok (.tableswitch dflt lo hi offs, len)) (hh : x.toInt < lo ∨ hi < x.toInt) (ht : (pc : Int) + dflt = (tgt : Int)) (k : am_Z X tgt L st h cs sl) : am_Z X pc L (.int x :: st) h cs sl := by
  obtain ⟨p, l, e, R, s, m, args, below, meth, c, Q, G, ad0, nL⟩ := X
  obtain ⟨hx, hb, -⟩ := hB
  intro H locs ad ls st' a1 a2 a3 a4 a5
  obtain ⟨_, _, rfl, rfl, a5⟩ := a5
  exact lv_tableOut hx hb hdg hh ht (k H locs ad ls _ a1 a2 a3 a4 a5)
theorem am_tableIn (hB : am_B X own cc) {dflt lo hi : Int} {offs : Array Int} {len : Nat} {x : Int32} {off : Int} {tgt : Nat} (hdg : decode cc pc = .ok (.tableswitch dflt lo hi offs, len)) (h1 : ¬ x.toInt < lo) (h2 : ¬ hi < x.toInt) (ho : offs[(x.toInt - lo).toNat]? = some off) (ht : (pc : Int) + off = (tgt : Int)) (k : am_Z X tgt L st h cs sl) : am_Z X pc L (.int x :: st) h cs sl := by
  obtain ⟨p, l, e, R, s, m, args, below, meth, c, Q, G, ad0, nL⟩ := X
  obtain ⟨hx, hb, -⟩ := hB
  intro H locs ad ls st' a1 a2 a3 a4 a5
  obtain ⟨_, _, rfl, rfl, a5⟩ := a5
  exact lv_tableIn hx hb hdg h1 h2 ho ht (k H locs ad ls _ a1 a2 a3 a4 a5)
end AmRows
/-- a field as a method of 'own' names it, of an object of class ci: its place j -/
def am_F (own : String) (index ci j : Nat) : Prop := ∃ (C : String) (T : u_T) (N : Nat) (ref : String), vwCl[ci]? = some (C, T, N) ∧ j < N ∧ Cond.fieldLink own index ref (T j).2.1 (T j).2.2.1 ∈ am_tbl ∧ (∀ w ∈ u_ws C T N, w ∈ am_tbl) ∧ (ref = (T j).1 ∨ Cond.sameField ref (T j).1 (T j).2.1 (T j).2.2.1 ∈ am_tbl)
/-- .. to be written: its type, and whether it is final -/
def am_P (own : String) (index ci j : Nat) (ty : FieldType) (fin : Bool) : Prop := ∃ (C : String) (T : u_T) (N : Nat) (ref : String) (ty0 : Nat → FieldType), vwCl[ci]? = some (C, T, N) ∧ j < N ∧ Cond.fieldLink own index ref (T j).2.1 (T j).2.2.1 ∈ am_tbl ∧ (∀ w ∈ u_ws C T N, w ∈ am_tbl) ∧ (ref = (T j).1 ∨ Cond.sameField ref (T j).1 (T j).2.1 (T j).2.2.1 ∈ am_tbl) ∧ (∀ k, k < N → parseFieldDescriptor (T k).2.2.1 = some (ty0 k)) ∧ (∀ a, a < N → ∀ b, b < N → a ≠ b → (T a).2.1 ≠ (T b).2.1) ∧ (T j).2.2.2 = fin ∧ parseFieldDescriptor (T j).2.2.1 = some ty ∧ (fin = true → (T j).1 = own)
theorem am_same {s : State} {args : Array Value} (hts : ∀ w ∈ am_tbl, w.before args s = true) {ref o n d : String} (h : ref = o ∨ Cond.sameField ref o n d ∈ am_tbl) : ∀ x, s.fieldFound? o n d = some x → s.fieldFound? ref n d = some x := by
  rcases h with rfl | h
  · exact fun _ q => q
  · exact u_same (hts _ h)
section AmRows2
variable {X : am_C} {own : String} {cc : ByteArray} {pc : Nat} {L st : List Value} {h : am_H} {cs sl : Nat}
theorem am_getf (hB : am_B X own cc) {k ci j index : Nat} {fs : List Value} {v : Value} (hdg : decode cc pc = .ok (.getfield index, 3)) (hF : am_F own index ci j) (hr : h[k]? = some (.inr (ci, fs))) (hv : fs[j]? = some v) (kk : am_Z X (pc + 3) L (v :: st) h cs sl) : am_Z X pc L (.ref k :: st) h cs sl := by
  obtain ⟨p, l, e, R, s, m, args, below, meth, c, Q, G, ad0, nL⟩ := X
  obtain ⟨hx, hb, hml, ho, hts, hK, hfl, hG⟩ := hB
  obtain ⟨C, T, N, ref, hc, hj, hlk, hus, hsm⟩ := hF
  intro H locs ad ls st' a1 a2 a3 a4 a5
  obtain ⟨_, _, rfl, ⟨a, ha, rfl⟩, a5⟩ := a5
  have a2' := a2
  obtain ⟨ws, w1, w2, w3, hP, hD⟩ := a2'
  obtain ⟨a', e', g1, g2, fs', rfl, g3⟩ := w3 k _ hr
  have haa : a' = a := Option.some.inj (g1.symm.trans ha)
  subst haa
  obtain ⟨v', v1, v2⟩ := g3.get hv
  exact va_get hx hb hts hus ho hK hP k g2 hc j hj (hts _ hlk) (am_same hts hsm) v1 hdg (kk H locs ad ls _ a1 a2 a3 a4 ⟨_, _, rfl, v2, a5⟩)
/-- what may be stored -/
def am_fit (ty : FieldType) (v : Value) : Prop := ∀ (G : am_G) (ad : List Nat) (w : Value), am_V G ad v w → narrow ty w = w ∧ fits ty w = true
theorem am_fit.i {x : Int32} : am_fit .int (.int x) := fun _ _ w hw => by rw [show w = _ from hw]; exact ⟨rfl, rfl⟩
theorem am_fit.j {x : Int64} : am_fit .long (.long x) := fun _ _ w hw => by rw [show w = _ from hw]; exact ⟨rfl, rfl⟩
theorem am_fit.z {x : Int32} (hx : x = 0 ∨ x = 1) : am_fit .boolean (.int x) := fun _ _ w hw => by
  rw [show w = _ from hw]
  rcases hx with rfl | rfl
  · exact ⟨by decide +kernel, by decide +kernel⟩
  · exact ⟨by decide +kernel, by decide +kernel⟩
theorem am_fit.r {v : Value} (hr : am_ref v = true) {ty : FieldType} (ht : (∃ n, ty = .object n) ∨ ∃ t, ty = .array t) : am_fit ty v := fun _ _ w hw => by
  rcases ht with ⟨n, rfl⟩ | ⟨t, rfl⟩ <;> rcases hw.isr hr with rfl | ⟨a, rfl⟩ <;> exact ⟨rfl, rfl⟩
theorem am_putf (hB : am_B X own cc) {k ci j index : Nat} {fs : List Value} {v : Value} {ty : FieldType} {h' : am_H} (hdg : decode cc pc = .ok (.putfield index, 3)) (hF : am_P own index ci j ty false) (hr : h[k]? = some (.inr (ci, fs))) (hl : j < fs.length) (hv : am_fit ty v) (hh : h.set k (.inr (ci, fs.set j v)) = h') (kk : am_Z X (pc + 3) L st h' cs sl) : am_Z X pc L (v :: .ref k :: st) h cs sl := by
  subst hh
  obtain ⟨p, l, e, R, s, m, args, below, meth, c, Q, G, ad0, nL⟩ := X
  obtain ⟨hx, hb, hml, ho, hts, hK, hfl, hG⟩ := hB
  obtain ⟨C, T, N, ref, ty0, hc, hj, hlk, hus, hsm, hty, hnm, hfin, hd, -⟩ := hF
  intro H locs ad ls st' a1 a2 a3 a4 a5
  obtain ⟨_, _, rfl, hw, _, _, rfl, ⟨a, ha, rfl⟩, a5⟩ := a5
  obtain ⟨ws, w1, w2, w3, hP, hD⟩ := a2
  obtain ⟨a', e', g1, g2, fs', rfl, g3⟩ := w3 k _ hr
  have haa : a' = a := Option.some.inj (g1.symm.trans ha)
  subst haa
  obtain ⟨n1, n2⟩ := hv G ad _ hw
  exact va_put hx hb hts hus ty0 hty hnm ho hK hP hD a3 k g2 hc j hj (hts _ hlk) (am_same hts hsm) hfin hd n1 n2 (by rw [g3.len]; exact hl) hdg (fun H1 locs1 hP1 hD1 hS1 => kk H1 locs1 ad ls _ a1 (am_W.set w1 w2 w3 ha ⟨_, rfl, g3.set hw⟩ hP1 hD1) hS1 a4 a5)
theorem am_putF (hB : am_B X own cc) {k ci j index : Nat} {fs : List Value} {v : Value} {ty : FieldType} {h' : am_H} (hdg : decode cc pc = .ok (.putfield index, 3)) (hF : am_P own index ci j ty true) (hi : X.2.2.2.2.2.2.2.2.1.name = "<init>") (hr : h[k]? = some (.inr (ci, fs))) (hl : j < fs.length) (hv : am_fit ty v) (hh : h.set k (.inr (ci, fs.set j v)) = h') (kk : am_Z X (pc + 3) L st h' cs sl) : am_Z X pc L (v :: .ref k :: st) h cs sl := by
  subst hh
  obtain ⟨p, l, e, R, s, m, args, below, meth, c, Q, G, ad0, nL⟩ := X
  obtain ⟨hx, hb, hml, ho, hts, hK, hfl, hG⟩ := hB
  obtain ⟨C, T, N, ref, ty0, hc, hj, hlk, hus, hsm, hty, hnm, hfin, hd, hdc⟩ := hF
  intro H locs ad ls st' a1 a2 a3 a4 a5
  obtain ⟨_, _, rfl, hw, _, _, rfl, ⟨a, ha, rfl⟩, a5⟩ := a5
  obtain ⟨ws, w1, w2, w3, hP, hD⟩ := a2
  obtain ⟨a', e', g1, g2, fs', rfl, g3⟩ := w3 k _ hr
  have haa : a' = a := Option.some.inj (g1.symm.trans ha)
  subst haa
  obtain ⟨n1, n2⟩ := hv G ad _ hw
  exact va_putF hx hb hts hus ty0 hty hnm ho hK hP hD a3 k g2 hc j hj (hts _ hlk) (am_same hts hsm) hfin hi (hdc rfl) hd n1 n2 (by rw [g3.len]; exact hl) hdg (fun H1 locs1 hP1 hD1 hS1 => kk H1 locs1 ad ls _ a1 (am_W.set w1 w2 w3 ha ⟨_, rfl, g3.set hw⟩ hP1 hD1) hS1 a4 a5)
theorem am_iald (hB : am_B X own cc) {k t n : Nat} {f : Nat → Int32} {i : Int32} (hdg : decode cc pc = .ok (.iaload, 1)) (ht : ∀ G : am_G, (am_tys G)[t]? = some (G.2.1 t, .int)) (hr : h[k]? = some (.inl (t, n, .inl f))) (hin : vp_in i n) (kk : am_Z X (pc + 1) L (.int (f i.toNatClampNeg) :: st) h cs sl) : am_Z X pc L (.int i :: .ref k :: st) h cs sl := by
  obtain ⟨p, l, e, R, s, m, args, below, meth, c, Q, G, ad0, nL⟩ := X
  obtain ⟨hx, hb, hml, ho, hts, hK, hfl, hG⟩ := hB
  intro H locs ad ls st' a1 a2 a3 a4 a5
  obtain ⟨_, _, rfl, rfl, _, _, rfl, ⟨a, ha, rfl⟩, a5⟩ := a5
  have a2' := a2
  obtain ⟨ws, w1, w2, w3, hP, hD⟩ := a2'
  obtain ⟨a', e', g1, g2, g3⟩ := w3 k _ hr
  have haa : a' = a := Option.some.inj (g1.symm.trans ha)
  subst haa
  rw [show e' = _ from g3] at g2
  exact va_iald hx hb hK hP k t g2 (ht G) hin hdg (kk H locs ad ls _ a1 a2 a3 a4 ⟨_, _, rfl, rfl, a5⟩)
theorem am_cald (hB : am_B X own cc) {k t n : Nat} {f : Nat → Int32} {i : Int32} (hdg : decode cc pc = .ok (.caload, 1)) (ht : ∀ G : am_G, (am_tys G)[t]? = some (G.2.1 t, .char)) (hr : h[k]? = some (.inl (t, n, .inl f))) (hin : vp_in i n) (kk : am_Z X (pc + 1) L (.int (f i.toNatClampNeg) :: st) h cs sl) : am_Z X pc L (.int i :: .ref k :: st) h cs sl := by
  obtain ⟨p, l, e, R, s, m, args, below, meth, c, Q, G, ad0, nL⟩ := X
  obtain ⟨hx, hb, hml, ho, hts, hK, hfl, hG⟩ := hB
  intro H locs ad ls st' a1 a2 a3 a4 a5
  obtain ⟨_, _, rfl, rfl, _, _, rfl, ⟨a, ha, rfl⟩, a5⟩ := a5
  have a2' := a2
  obtain ⟨ws, w1, w2, w3, hP, hD⟩ := a2'
  obtain ⟨a', e', g1, g2, g3⟩ := w3 k _ hr
  have haa : a' = a := Option.some.inj (g1.symm.trans ha)
  subst haa
  rw [show e' = _ from g3] at g2
  exact va_cald hx hb hK hP k t g2 (ht G) hin hdg (kk H locs ad ls _ a1 a2 a3 a4 ⟨_, _, rfl, rfl, a5⟩)
theorem am_lald (hB : am_B X own cc) {k t n : Nat} {f : Nat → Int64} {i : Int32} (hdg : decode cc pc = .ok (.laload, 1)) (ht : ∀ G : am_G, (am_tys G)[t]? = some (G.2.1 t, .long)) (hr : h[k]? = some (.inl (t, n, .inr (.inl f)))) (hin : vp_in i n) (kk : am_Z X (pc + 1) L (.long (f i.toNatClampNeg) :: st) h cs sl) : am_Z X pc L (.int i :: .ref k :: st) h cs sl := by
  obtain ⟨p, l, e, R, s, m, args, below, meth, c, Q, G, ad0, nL⟩ := X
  obtain ⟨hx, hb, hml, ho, hts, hK, hfl, hG⟩ := hB
  intro H locs ad ls st' a1 a2 a3 a4 a5
  obtain ⟨_, _, rfl, rfl, _, _, rfl, ⟨a, ha, rfl⟩, a5⟩ := a5
  have a2' := a2
  obtain ⟨ws, w1, w2, w3, hP, hD⟩ := a2'
  obtain ⟨a', e', g1, g2, g3⟩ := w3 k _ hr
  have haa : a' = a := Option.some.inj (g1.symm.trans ha)
  subst haa
  rw [show e' = _ from g3] at g2
  exact va_lald hx hb hK hP k t g2 (ht G) hin hdg (kk H locs ad ls _ a1 a2 a3 a4 ⟨_, _, rfl, rfl, a5⟩)
theorem am_iast (hB : am_B X own cc) {k t n : Nat} {f : Nat → Int32} {i : Int32} {x : Int32} {h' : am_H} (hdg : decode cc pc = .ok (.iastore, 1)) (ht : ∀ G : am_G, (am_tys G)[t]? = some (G.2.1 t, .int)) (hr : h[k]? = some (.inl (t, n, .inl f))) (hin : vp_in i n) (hh : h.set k (.inl (t, n, .inl (upd f i.toNatClampNeg x))) = h') (kk : am_Z X (pc + 1) L st h' cs sl) : am_Z X pc L (.int x :: .int i :: .ref k :: st) h cs sl := by
  subst hh
  obtain ⟨p, l, e, R, s, m, args, below, meth, c, Q, G, ad0, nL⟩ := X
  obtain ⟨hx, hb, hml, ho, hts, hK, hfl, hG⟩ := hB
  intro H locs ad ls st' a1 a2 a3 a4 a5
  obtain ⟨_, _, rfl, rfl, _, _, rfl, rfl, _, _, rfl, ⟨a, ha, rfl⟩, a5⟩ := a5
  have a2' := a2
  obtain ⟨ws, w1, w2, w3, hP, hD⟩ := a2'
  obtain ⟨a', e', g1, g2, g3⟩ := w3 k _ hr
  have haa : a' = a := Option.some.inj (g1.symm.trans ha)
  subst haa
  rw [show e' = _ from g3] at g2
  exact va_iast hx hb hK hP hD a3 k t g2 (ht G) hin hdg (fun H1 locs1 hP1 hD1 hS1 => kk H1 locs1 ad ls _ a1 (am_W.set w1 w2 w3 ha rfl hP1 hD1) hS1 a4 a5)
theorem am_cast (hB : am_B X own cc) {k t n : Nat} {f : Nat → Int32} {i : Int32} {x : Int32} {h' : am_H} (hdg : decode cc pc = .ok (.castore, 1)) (ht : ∀ G : am_G, (am_tys G)[t]? = some (G.2.1 t, .char)) (hr : h[k]? = some (.inl (t, n, .inl f))) (hin : vp_in i n) (hh : h.set k (.inl (t, n, .inl (upd f i.toNatClampNeg (vp_nar .char x)))) = h') (kk : am_Z X (pc + 1) L st h' cs sl) : am_Z X pc L (.int x :: .int i :: .ref k :: st) h cs sl := by
  subst hh
  obtain ⟨p, l, e, R, s, m, args, below, meth, c, Q, G, ad0, nL⟩ := X
  obtain ⟨hx, hb, hml, ho, hts, hK, hfl, hG⟩ := hB
  intro H locs ad ls st' a1 a2 a3 a4 a5
  obtain ⟨_, _, rfl, rfl, _, _, rfl, rfl, _, _, rfl, ⟨a, ha, rfl⟩, a5⟩ := a5
  have a2' := a2
  obtain ⟨ws, w1, w2, w3, hP, hD⟩ := a2'
  obtain ⟨a', e', g1, g2, g3⟩ := w3 k _ hr
  have haa : a' = a := Option.some.inj (g1.symm.trans ha)
  subst haa
  rw [show e' = _ from g3] at g2
  exact va_cast hx hb hK hP hD a3 k t g2 (ht G) hin hdg (fun H1 locs1 hP1 hD1 hS1 => kk H1 locs1 ad ls _ a1 (am_W.set w1 w2 w3 ha rfl hP1 hD1) hS1 a4 a5)
theorem am_last (hB : am_B X own cc) {k t n : Nat} {f : Nat → Int64} {i : Int32} {x : Int64} {h' : am_H} (hdg : decode cc pc = .ok (.lastore, 1)) (ht : ∀ G : am_G, (am_tys G)[t]? = some (G.2.1 t, .long)) (hr : h[k]? = some (.inl (t, n, .inr (.inl f)))) (hin : vp_in i n) (hh : h.set k (.inl (t, n, .inr (.inl (vp_updL f i.toNatClampNeg x)))) = h') (kk : am_Z X (pc + 1) L st h' cs sl) : am_Z X pc L (.long x :: .int i :: .ref k :: st) h cs sl := by
  subst hh
  obtain ⟨p, l, e, R, s, m, args, below, meth, c, Q, G, ad0, nL⟩ := X
  obtain ⟨hx, hb, hml, ho, hts, hK, hfl, hG⟩ := hB
  intro H locs ad ls st' a1 a2 a3 a4 a5
  obtain ⟨_, _, rfl, rfl, _, _, rfl, rfl, _, _, rfl, ⟨a, ha, rfl⟩, a5⟩ := a5
  have a2' := a2
  obtain ⟨ws, w1, w2, w3, hP, hD⟩ := a2'
  obtain ⟨a', e', g1, g2, g3⟩ := w3 k _ hr
  have haa : a' = a := Option.some.inj (g1.symm.trans ha)
  subst haa
  rw [show e' = _ from g3] at g2
  exact va_last hx hb hK hP hD a3 k t g2 (ht G) hin hdg (fun H1 locs1 hP1 hD1 hS1 => kk H1 locs1 ad ls _ a1 (am_W.set w1 w2 w3 ha rfl hP1 hD1) hS1 a4 a5)
theorem am_aald (hB : am_B X own cc) {k t n q : Nat} {f : Nat → Option Nat} {i : Int32} {C : String} (hdg : decode cc pc = .ok (.aaload, 1)) (ht : ∀ G : am_G, (am_tys G)[t]? = some (G.2.1 t, .object C)) (hr : h[k]? = some (.inl (t, n, .inr (.inr (.inr (.inr f)))))) (hin : vp_in i n) (hf : f i.toNatClampNeg = some q) (kk : am_Z X (pc + 1) L (.ref q :: st) h cs sl) : am_Z X pc L (.int i :: .ref k :: st) h cs sl := by
  obtain ⟨p, l, e, R, s, m, args, below, meth, c, Q, G, ad0, nL⟩ := X
  obtain ⟨hx, hb, hml, ho, hts, hK, hfl, hG⟩ := hB
  intro H locs ad ls st' a1 a2 a3 a4 a5
  obtain ⟨_, _, rfl, rfl, _, _, rfl, ⟨a, ha, rfl⟩, a5⟩ := a5
  have a2' := a2
  obtain ⟨ws, w1, w2, w3, hP, hD⟩ := a2'
  obtain ⟨a', e', g1, g2, g3⟩ := w3 k _ hr
  have haa : a' = a := Option.some.inj (g1.symm.trans ha)
  subst haa
  obtain ⟨f', rfl, hff⟩ := g3
  have hq := hff i.toNatClampNeg
  rw [hf] at hq
  obtain ⟨b, hb1, hb2⟩ := hq
  refine va_aldq hx hb hK hP k t g2 (ht G) hin hdg ?_
  rw [hb2]
  exact kk H locs ad ls _ a1 a2 a3 a4 ⟨_, _, rfl, ⟨b, hb1, rfl⟩, a5⟩
theorem am_aast (hB : am_B X own cc) {k t n q ci : Nat} {fs : List Value} {f : Nat → Option Nat} {i : Int32} {C : String} {T : u_T} {N : Nat} {h' : am_H} (hdg : decode cc pc = .ok (.aastore, 1)) (ht : ∀ G : am_G, (am_tys G)[t]? = some (G.2.1 t, .object C)) (hr : h[k]? = some (.inl (t, n, .inr (.inr (.inr (.inr f)))))) (hq : h[q]? = some (.inr (ci, fs))) (hc : vwCl[ci]? = some (C, T, N)) (hin : vp_in i n) (hh : h.set k (.inl (t, n, .inr (.inr (.inr (.inr (va_up f i.toNatClampNeg (some q))))))) = h') (kk : am_Z X (pc + 1) L st h' cs sl) : am_Z X pc L (.ref q :: .int i :: .ref k :: st) h cs sl := by
  subst hh
  obtain ⟨p, l, e, R, s, m, args, below, meth, c, Q, G, ad0, nL⟩ := X
  obtain ⟨hx, hb, hml, ho, hts, hK, hfl, hG⟩ := hB
  intro H locs ad ls st' a1 a2 a3 a4 a5
  obtain ⟨_, _, rfl, ⟨b, hb1, rfl⟩, _, _, rfl, rfl, _, _, rfl, ⟨a, ha, rfl⟩, a5⟩ := a5
  have a2' := a2
  obtain ⟨ws, w1, w2, w3, hP, hD⟩ := a2'
  obtain ⟨a', e', g1, g2, g3⟩ := w3 k _ hr
  have haa : a' = a := Option.some.inj (g1.symm.trans ha)
  subst haa
  obtain ⟨f', rfl, hff⟩ := g3
  obtain ⟨b', e2, r1, r2, fs', rfl, r3⟩ := w3 q _ hq
  have hbb : b' = b := Option.some.inj (r1.symm.trans hb1)
  subst hbb
  refine va_astq hx hb hK hP hD a3 k t q ci (r := (C, T, N)) g2 (ht G) r2 hc hin hdg (fun H1 locs1 hP1 hD1 hS1 => kk H1 locs1 ad ls _ a1 (am_W.set w1 w2 w3 ha ⟨_, rfl, fun j => ?_⟩ hP1 hD1) hS1 a4 a5)
  by_cases hj : j = i.toNatClampNeg
  · subst hj
    rw [va_up_self, va_up_self]
    exact ⟨b', hb1, rfl⟩
  · rw [va_up_ne _ _ hj, va_up_ne _ _ hj]
    exact hff j
theorem am_alen (hB : am_B X own cc) {k t : Nat} {x : vp_A} {ty : FieldType} {v : Int32} (hdg : decode cc pc = .ok (.arraylength, 1)) (ht : ∀ G : am_G, (am_tys G)[t]? = some (G.2.1 t, ty)) (hr : h[k]? = some (.inl (t, x))) (hv : Int32.ofNat x.1 = v) (kk : am_Z X (pc + 1) L (.int v :: st) h cs sl) : am_Z X pc L (.ref k :: st) h cs sl := by
  obtain ⟨p, l, e, R, s, m, args, below, meth, c, Q, G, ad0, nL⟩ := X
  obtain ⟨hx, hb, hml, ho, hts, hK, hfl, hG⟩ := hB
  intro H locs ad ls st' a1 a2 a3 a4 a5
  obtain ⟨_, _, rfl, ⟨a, ha, rfl⟩, a5⟩ := a5
  have a2' := a2
  obtain ⟨ws, w1, w2, w3, hP, hD⟩ := a2'
  obtain ⟨a', e', g1, g2, g3⟩ := w3 k _ hr
  have haa : a' = a := Option.some.inj (g1.symm.trans ha)
  subst haa
  obtain ⟨n, f | f | f | f | f⟩ := x
  · rw [show e' = _ from g3] at g2
    exact va_alen hx hb hK hP k t g2 (ht G) hv hdg (kk H locs ad ls _ a1 a2 a3 a4 ⟨_, _, rfl, rfl, a5⟩)
  · rw [show e' = _ from g3] at g2
    exact va_alen hx hb hK hP k t g2 (ht G) hv hdg (kk H locs ad ls _ a1 a2 a3 a4 ⟨_, _, rfl, rfl, a5⟩)
  · exact g3.elim
  · exact g3.elim
  · obtain ⟨f', rfl, hff⟩ := g3
    exact va_alen hx hb hK hP k t g2 (ht G) hv hdg (kk H locs ad ls _ a1 a2 a3 a4 ⟨_, _, rfl, rfl, a5⟩)
def am_plain (v : Value) : Bool := match v with
  | .int _ => true
  | .long _ => true
  | .null => true
  | _ => false
theorem am_S.self {G : am_G} {ad : List Nat} : ∀ {fs : List Value}, fs.all am_plain = true → am_S G ad fs fs
  | [], _ => rfl
  | v :: vs, h => by
    rw [List.all_cons, Bool.and_eq_true] at h
    refine ⟨v, vs, rfl, ?_, am_S.self h.2⟩
    cases v <;> first | rfl | cases h.1
theorem am_top {G : am_G} {ad : List Nat} {h : am_H} {q : Nat} (h2 : ad.length = h.length) : am_V G (ad ++ [q]) (.ref h.length) (.ref q) := ⟨q, by rw [← h2, List.getElem?_append_right (Nat.le_refl _), Nat.sub_self]; rfl, rfl⟩
/-- a class that is made: its link, its fields' defaults -/
def am_N (own : String) (index ci N : Nat) (fs : List Value) : Prop := ∃ (C : String) (T : u_T) (ty0 : Nat → FieldType), vwCl[ci]? = some (C, T, N) ∧ Cond.classLink own index C ∈ am_tbl ∧ Cond.instantiable C N ∈ am_tbl ∧ Cond.initialized C ∈ am_tbl ∧ (∀ w ∈ u_ws C T N, w ∈ am_tbl) ∧ (∀ k, k < N → parseFieldDescriptor (T k).2.2.1 = some (ty0 k)) ∧ (∀ j, j < N → defaultValue (ty0 j) = vp_V fs j) ∧ fs.all am_plain = true
theorem am_new (hB : am_B X own cc) {index ci N : Nat} {fs : List Value} {h' : am_H} {q cs' sl' : Nat} (hdg : decode cc pc = .ok (.new index, 3)) (hN : am_N own index ci N fs) (h1 : cs + 1 ≤ X.2.2.2.1.cells) (h2 : sl + N ≤ X.2.2.2.1.slots) (hq : h.length = q) (hh : h ++ [.inr (ci, fs)] = h') (hcs : cs + 1 = cs') (hsl : sl + N = sl') (kk : am_Z X (pc + 3) L (.ref q :: st) h' cs' sl') : am_Z X pc L st h cs sl := by
  subst hh
  subst hq
  subst hcs
  subst hsl
  obtain ⟨p, l, e, R, s, m, args, below, meth, c, Q, G, ad0, nL⟩ := X
  obtain ⟨hx, hb, hml, ho, hts, hK, hfl, hG⟩ := hB
  obtain ⟨C, T, ty0, hc, q1, q2, q3, hus, hty, hdf, hpl⟩ := hN
  intro H locs ad ls st' a1 a2 a3 a4 a5
  obtain ⟨ws, w1, w2, w3, hP, hD⟩ := a2
  exact va_new hx hb hts hus ty0 hty ho (hts _ q1) (hts _ q2) (hts _ q3) hK hP hD a3 (fun q hq => Nat.le_trans hfl hq) hc hdf h1 h2 hdg (fun q H1 hP1 hD1 hS1 => kk H1 locs (ad ++ [q]) ls _ (a1.tr ⟨[q], rfl⟩) (am_W.push w1 w2 w3 ⟨_, rfl, am_S.self hpl⟩ hP1 hD1) hS1 (a4.mono ⟨[q], rfl⟩) ⟨_, _, rfl, am_top w2, a5.mono ⟨[q], rfl⟩⟩)
theorem am_newI (hB : am_B X own cc) {n : Int32} {N t : Nat} {h' : am_H} {q cs' sl' : Nat} (hdg : decode cc pc = .ok (.newarray .int, 2)) (ht : ∀ G : am_G, (am_tys G)[t]? = some (G.2.1 t, .int)) (hw : Cond.arrayClass .int ∈ am_tbl) (hn : ¬ n < 0) (hN : n.toNatClampNeg = N) (hby : N * 8 ≤ 536870912) (h1 : cs + 1 ≤ X.2.2.2.1.cells) (h2 : sl + N ≤ X.2.2.2.1.slots) (hq : h.length = q) (hh : h ++ [.inl (t, N, .inl (fun _ => 0))] = h') (hcs : cs + 1 = cs') (hsl : sl + N = sl') (kk : am_Z X (pc + 2) L (.ref q :: st) h' cs' sl') : am_Z X pc L (.int n :: st) h cs sl := by
  subst hh
  subst hq
  subst hcs
  subst hsl
  obtain ⟨p, l, e, R, s, m, args, below, meth, c, Q, G, ad0, nL⟩ := X
  obtain ⟨hx, hb, hml, ho, hts, hK, hfl, hG⟩ := hB
  intro H locs ad ls st' a1 a2 a3 a4 a5
  obtain ⟨_, _, rfl, rfl, a5⟩ := a5
  obtain ⟨ws, w1, w2, w3, hP, hD⟩ := a2
  refine va_newa hx hb (atype := .int) (hts _ hw) (ty := .int) rfl hK hP hD a3 (fun q hq => Nat.le_trans hfl hq) (a0 := (N, .inl (fun _ => 0))) (fun _ => rfl) hn hN (by simp only [componentBytes]; omega) h1 h2 hdg (fun q cA H1 hK1 hP1 hD1 hS1 => ?_)
  have e1 : cA = G.2.1 t := by
    have g1 := (hK1.2 (am_tys G).length (cA, .int) (by rw [List.getElem?_append_right (Nat.le_refl _), Nat.sub_self]; rfl)).2
    have g2 := (hK.2 t _ (ht G)).2
    exact Option.some.inj ((show s.vm.findClass _ = some cA from g1).symm.trans (show s.vm.findClass _ = some (G.2.1 t) from g2))
  subst e1
  exact kk H1 locs (ad ++ [q]) ls _ (a1.tr ⟨[q], rfl⟩) (am_W.push w1 w2 w3 rfl hP1 hD1) hS1 (a4.mono ⟨[q], rfl⟩) ⟨_, _, rfl, am_top w2, a5.mono ⟨[q], rfl⟩⟩
theorem am_newC (hB : am_B X own cc) {n : Int32} {N t : Nat} {h' : am_H} {q cs' sl' : Nat} (hdg : decode cc pc = .ok (.newarray .char, 2)) (ht : ∀ G : am_G, (am_tys G)[t]? = some (G.2.1 t, .char)) (hw : Cond.arrayClass .char ∈ am_tbl) (hn : ¬ n < 0) (hN : n.toNatClampNeg = N) (hby : N * 8 ≤ 536870912) (h1 : cs + 1 ≤ X.2.2.2.1.cells) (h2 : sl + N ≤ X.2.2.2.1.slots) (hq : h.length = q) (hh : h ++ [.inl (t, N, .inl (fun _ => 0))] = h') (hcs : cs + 1 = cs') (hsl : sl + N = sl') (kk : am_Z X (pc + 2) L (.ref q :: st) h' cs' sl') : am_Z X pc L (.int n :: st) h cs sl := by
  subst hh
  subst hq
  subst hcs
  subst hsl
  obtain ⟨p, l, e, R, s, m, args, below, meth, c, Q, G, ad0, nL⟩ := X
  obtain ⟨hx, hb, hml, ho, hts, hK, hfl, hG⟩ := hB
  intro H locs ad ls st' a1 a2 a3 a4 a5
  obtain ⟨_, _, rfl, rfl, a5⟩ := a5
  obtain ⟨ws, w1, w2, w3, hP, hD⟩ := a2
  refine va_newa hx hb (atype := .char) (hts _ hw) (ty := .char) rfl hK hP hD a3 (fun q hq => Nat.le_trans hfl hq) (a0 := (N, .inl (fun _ => 0))) (fun _ => rfl) hn hN (by simp only [componentBytes]; omega) h1 h2 hdg (fun q cA H1 hK1 hP1 hD1 hS1 => ?_)
  have e1 : cA = G.2.1 t := by
    have g1 := (hK1.2 (am_tys G).length (cA, .char) (by rw [List.getElem?_append_right (Nat.le_refl _), Nat.sub_self]; rfl)).2
    have g2 := (hK.2 t _ (ht G)).2
    exact Option.some.inj ((show s.vm.findClass _ = some cA from g1).symm.trans (show s.vm.findClass _ = some (G.2.1 t) from g2))
  subst e1
  exact kk H1 locs (ad ++ [q]) ls _ (a1.tr ⟨[q], rfl⟩) (am_W.push w1 w2 w3 rfl hP1 hD1) hS1 (a4.mono ⟨[q], rfl⟩) ⟨_, _, rfl, am_top w2, a5.mono ⟨[q], rfl⟩⟩
theorem am_newJ (hB : am_B X own cc) {n : Int32} {N t : Nat} {h' : am_H} {q cs' sl' : Nat} (hdg : decode cc pc = .ok (.newarray .long, 2)) (ht : ∀ G : am_G, (am_tys G)[t]? = some (G.2.1 t, .long)) (hw : Cond.arrayClass .long ∈ am_tbl) (hn : ¬ n < 0) (hN : n.toNatClampNeg = N) (hby : N * 8 ≤ 536870912) (h1 : cs + 1 ≤ X.2.2.2.1.cells) (h2 : sl + N ≤ X.2.2.2.1.slots) (hq : h.length = q) (hh : h ++ [.inl (t, N, .inr (.inl (fun _ => 0)))] = h') (hcs : cs + 1 = cs') (hsl : sl + N = sl') (kk : am_Z X (pc + 2) L (.ref q :: st) h' cs' sl') : am_Z X pc L (.int n :: st) h cs sl := by
  subst hh
  subst hq
  subst hcs
  subst hsl
  obtain ⟨p, l, e, R, s, m, args, below, meth, c, Q, G, ad0, nL⟩ := X
  obtain ⟨hx, hb, hml, ho, hts, hK, hfl, hG⟩ := hB
  intro H locs ad ls st' a1 a2 a3 a4 a5
  obtain ⟨_, _, rfl, rfl, a5⟩ := a5
  obtain ⟨ws, w1, w2, w3, hP, hD⟩ := a2
  refine va_newa hx hb (atype := .long) (hts _ hw) (ty := .long) rfl hK hP hD a3 (fun q hq => Nat.le_trans hfl hq) (a0 := (N, .inr (.inl (fun _ => 0)))) (fun _ => rfl) hn hN (by simp only [componentBytes]; omega) h1 h2 hdg (fun q cA H1 hK1 hP1 hD1 hS1 => ?_)
  have e1 : cA = G.2.1 t := by
    have g1 := (hK1.2 (am_tys G).length (cA, .long) (by rw [List.getElem?_append_right (Nat.le_refl _), Nat.sub_self]; rfl)).2
    have g2 := (hK.2 t _ (ht G)).2
    exact Option.some.inj ((show s.vm.findClass _ = some cA from g1).symm.trans (show s.vm.findClass _ = some (G.2.1 t) from g2))
  subst e1
  exact kk H1 locs (ad ++ [q]) ls _ (a1.tr ⟨[q], rfl⟩) (am_W.push w1 w2 w3 rfl hP1 hD1) hS1 (a4.mono ⟨[q], rfl⟩) ⟨_, _, rfl, am_top w2, a5.mono ⟨[q], rfl⟩⟩
theorem am_newA (hB : am_B X own cc) {n : Int32} {N t index : Nat} {C : String} {h' : am_H} {q cs' sl' : Nat} (hdg : decode cc pc = .ok (.anewarray index, 3)) (ht : ∀ G : am_G, (am_tys G)[t]? = some (G.2.1 t, .object C)) (hk : Cond.classLink own index C ∈ am_tbl) (hw : ∀ (G : am_G) (U : State), am_K G U → va_AO C U) (hn : ¬ n < 0) (hN : n.toNatClampNeg = N) (hby : N * 4 ≤ 536870912) (h1 : cs + 1 ≤ X.2.2.2.1.cells) (h2 : sl + N ≤ X.2.2.2.1.slots) (hq : h.length = q) (hh : h ++ [.inl (t, N, .inr (.inr (.inr (.inr (fun _ => none)))))] = h') (hcs : cs + 1 = cs') (hsl : sl + N = sl') (kk : am_Z X (pc + 3) L (.ref q :: st) h' cs' sl') : am_Z X pc L (.int n :: st) h cs sl := by
  subst hh
  subst hq
  subst hcs
  subst hsl
  obtain ⟨p, l, e, R, s, m, args, below, meth, c, Q, G, ad0, nL⟩ := X
  obtain ⟨hx, hb, hml, ho, hts, hK, hfl, hG⟩ := hB
  intro H locs ad ls st' a1 a2 a3 a4 a5
  obtain ⟨_, _, rfl, rfl, a5⟩ := a5
  obtain ⟨ws, w1, w2, w3, hP, hD⟩ := a2
  refine va_newq hx hb ho (hts _ hk) (hw _ _ hG) hK hP hD a3 (fun q hq => Nat.le_trans hfl hq) hn hN hby h1 h2 hdg (fun q cA H1 hK1 hP1 hD1 hS1 => ?_)
  have e1 : cA = G.2.1 t := by
    obtain ⟨_, _, -, -, -, g1⟩ := (hK1.2 (am_tys G).length (cA, .object C) (by rw [List.getElem?_append_right (Nat.le_refl _), Nat.sub_self]; rfl)).2
    obtain ⟨_, _, -, -, -, g2⟩ := (hK.2 t _ (ht G)).2
    exact Option.some.inj (g1.symm.trans g2)
  subst e1
  exact kk H1 locs (ad ++ [q]) ls _ (a1.tr ⟨[q], rfl⟩) (am_W.push w1 w2 w3 ⟨_, rfl, fun _ => rfl⟩ hP1 hD1) hS1 (a4.mono ⟨[q], rfl⟩) ⟨_, _, rfl, am_top w2, a5.mono ⟨[q], rfl⟩⟩
end AmRows2