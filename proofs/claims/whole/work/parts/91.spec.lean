/-! the network as a mathematical state, and what its nodes do -/
abbrev aB : Type := Nat → Nat
/-- a stream at a relay: its number, its sort, its window, how many came -/
abbrev aS : Type := Nat × Nat × Int32 × Int32
abbrev aS.id (s : aS) : Nat := s.1
abbrev aS.so (s : aS) : Nat := s.2.1
abbrev aS.wi (s : aS) : Int32 := s.2.2.1
abbrev aS.ca (s : aS) : Int32 := s.2.2.2
/-- an entry of a relay: whence, by what number; whither, by what number; whether it waits; both directions; its streams -/
abbrev aE : Type := Nat × Int32 × Option (Nat × Nat) × Bool × aL × aL × List aS
abbrev aE.fr (e : aE) : Nat := e.1
abbrev aE.fn (e : aE) : Int32 := e.2.1
abbrev aE.on (e : aE) : Option (Nat × Nat) := e.2.2.1
abbrev aE.wt (e : aE) : Bool := e.2.2.2.1
abbrev aE.fw (e : aE) : aL := e.2.2.2.2.1
abbrev aE.bw (e : aE) : aL := e.2.2.2.2.2.1
abbrev aE.st (e : aE) : List aS := e.2.2.2.2.2.2
/-- a relay: seed, draws, weight, next number, entries by their places, bytes kept -/
abbrev aR : Type := Int64 × Int32 × Nat × Nat × (Nat → Option aE) × List Nat
abbrev aR.se (r : aR) : Int64 := r.1
abbrev aR.dr (r : aR) : Int32 := r.2.1
abbrev aR.we (r : aR) : Nat := r.2.2.1
abbrev aR.nx (r : aR) : Nat := r.2.2.2.1
abbrev aR.en (r : aR) : Nat → Option aE := r.2.2.2.2.1
abbrev aR.ke (r : aR) : List Nat := r.2.2.2.2.2
/-- a client: seed, draws, how many circuits it has made -/
abbrev aK : Type := Int64 × Int32 × Nat
abbrev aK.se (k : aK) : Int64 := k.1
abbrev aK.dr (k : aK) : Int32 := k.2.1
abbrev aK.nu (k : aK) : Nat := k.2.2
/-- a stream at its client: phase, window, how many came, bytes that wait, bytes that were got -/
abbrev aT : Type := Nat × Int32 × Int32 × List Nat × List Nat
abbrev aT.ph (t : aT) : Nat := t.1
abbrev aT.wi (t : aT) : Int32 := t.2.1
abbrev aT.ca (t : aT) : Int32 := t.2.2.1
abbrev aT.wa (t : aT) : List Nat := t.2.2.2.1
abbrev aT.go (t : aT) : List Nat := t.2.2.2.2
/-- a circuit: client (0 or 1), number, path, hops, phase, layers, what was drawn last, streams -/
abbrev aC : Type := Nat × Nat × List Nat × Nat × Nat × (Nat → aL × aL) × (Nat → Nat) × List aT
abbrev aC.cl (c : aC) : Nat := c.1
abbrev aC.nu (c : aC) : Nat := c.2.1
abbrev aC.pa (c : aC) : List Nat := c.2.2.1
abbrev aC.hp (c : aC) : Nat := c.2.2.2.1
abbrev aC.ph (c : aC) : Nat := c.2.2.2.2.1
abbrev aC.la (c : aC) : Nat → aL × aL := c.2.2.2.2.2.1
abbrev aC.x (c : aC) : Nat → Nat := c.2.2.2.2.2.2.1
abbrev aC.st (c : aC) : List aT := c.2.2.2.2.2.2.2
/-- the network: relays, clients, circuits (how many, and each), the cells on every link 10 * from + to -/
abbrev aN : Type := Nat × (Nat → aR) × Nat × (Nat → aK) × Nat × (Nat → aC) × (Nat → List aB)
abbrev aN.nr (n : aN) : Nat := n.1
abbrev aN.r (n : aN) : Nat → aR := n.2.1
abbrev aN.nk (n : aN) : Nat := n.2.2.1
abbrev aN.k (n : aN) : Nat → aK := n.2.2.2.1
abbrev aN.nc (n : aN) : Nat := n.2.2.2.2.1
abbrev aN.c (n : aN) : Nat → aC := n.2.2.2.2.2.1
abbrev aN.lk (n : aN) : Nat → List aB := n.2.2.2.2.2.2
/-- a family changed at one place -/
def fu {α : Type} (f : Nat → α) (i : Nat) (v : α) : Nat → α := fun j => if j = i then v else f j
theorem fu_s {α : Type} {f : Nat → α} {i : Nat} {v : α} : fu f i v i = v := if_pos rfl
theorem fu_n {α : Type} {f : Nat → α} {i j : Nat} {v : α} (h : j ≠ i) : fu f i v j = f j := if_neg h
/-- the number of a cell -/
def ce_n (x : aB) : Int32 := nI ((x 0 * 256 + x 1) * 65536 + (x 2 * 256 + x 3))
/-- a cell: number, command, n bytes of payload -/
def ce_k (num : Int32) (cmd : Nat) (p : Nat → Nat) (n : Nat) : aB := fun i => if i < 4 then db_b num i else if i = 4 then cmd else if i < 5 + n then p (i - 5) else 0
/-- a cell whose payload is p -/
def ce_p (x : aB) (p : Nat → Nat) : aB := fun i => if i < 5 then x i else p (i - 5)
/-- one direction signs a payload and covers it -/
def bk_l (l : aL) (cmd s n : Nat) (d : Nat → Nat) : aL := (l.ms ++ sp_sl (mk_c cmd s n d) 5 135, l.K, l.pos + 135)
def bk_p (l : aL) (cmd s n : Nat) (d : Nat → Nat) : Nat → Nat := cv_p l.K l.pos (fun k => rc_s l.ms (mk_c cmd s n d) (5 + k))
/-- one direction covers a payload -/
def cv_l (l : aL) : aL := (l.ms, l.K, l.pos + 135)
/-- it recognizes a cell -/
def rc_l (l : aL) (x : aB) : aL := (rc_m l.ms x, l.K, l.pos)
/-- places of entries -/
def e_fr (en : Nat → Option aE) (fr : Nat) (num : Int32) : Option Nat := (List.range 12).find? (fun k => match en k with | some e => decide (e.fr = fr) && decide (e.fn = num) | none => false)
def e_to (en : Nat → Option aE) (fr : Nat) (num : Int32) : Option Nat := (List.range 12).find? (fun k => match en k with | some e => (match e.on with | some q => decide (q.1 = fr) && decide (nI q.2 = num) | none => false) | none => false)
def e_fe (en : Nat → Option aE) : Option Nat := (List.range 12).find? (fun k => (en k).isNone)
/-- what a node sends: to whom, which cell -/
abbrev aO : Type := List (Nat × aB)
def r_en (r : aR) (f : Nat → Option aE) : aR := (r.se, r.dr, r.we, r.nx, f, r.ke)
/-- an entry's cells back to where it comes from, one behind the other -/
def e_bk (e : aE) (cmd s n : Nat) (d : Nat → Nat) : aE × (Nat × aB) := ((e.fr, e.fn, e.on, e.wt, e.fw, bk_l e.bw cmd s n d, e.st), (e.fr, ce_k e.fn 3 (bk_p e.bw cmd s n d) 135))
/-- an entry destroyed: cells to both sides -/
def e_ds (e : aE) : aO := (e.fr, ce_k e.fn 4 (fun _ => 0) 0) :: (match e.on with | some q => [(q.1, ce_k (nI q.2) 4 (fun _ => 0) 0)] | none => [])
/-- the place of a stream -/
def s_at (st : List aS) (id : Nat) : Option Nat := st.findIdx? (fun s => decide (s.id = id))
/-- a stream taken out: the last one takes its place -/
def s_rm (st : List aS) (k : Nat) : List aS := (st.set k (st.getLastD (0, 0, 0, 0))).dropLast
/-- data at a relay's stream k -/
def r_ca (r : aR) (s : Nat) (e : aE) (k : Nat) (n : Nat) (d : Nat → Nat) : aR × aO :=
  let q := e.st.getD k (0, 0, 0, 0)
  let c1 := q.ca + 1
  let e1 : aE := (e.fr, e.fn, e.on, e.wt, e.fw, e.bw, e.st.set k (q.id, q.so, q.wi, c1))
  let s1 : aE × aO := if i_rem c1 2 = 0 then ((e_bk e1 5 q.id 0 d).1, [(e_bk e1 5 q.id 0 d).2]) else (e1, [])
  if q.so = 2 then ((r.se, r.dr, r.we, r.nx, fu r.en s (some s1.1), r.ke ++ (sp_sl d 0 n).take (2000 - r.ke.length)), s1.2)
  else if 0 < q.wi then
    let e2 : aE := (s1.1.fr, s1.1.fn, s1.1.on, s1.1.wt, s1.1.fw, s1.1.bw, s1.1.st.set k (q.id, q.so, q.wi - 1, c1))
    (r_en r (fu r.en s (some (e_bk e2 2 q.id n d).1)), s1.2 ++ [(e_bk e2 2 q.id n d).2])
  else (r_en r (fu r.en s (some s1.1)), s1.2)
/-- a relay does what a recognized cell says; y is the cell, its place s -/
def r_do (nr self : Nat) (r : aR) (s : Nat) (e : aE) (y : aB) : aR × aO :=
  let id := y 8 * 256 + y 9
  let n := y 14 * 256 + y 15
  let d : Nat → Nat := fun j => y (16 + j)
  let out : aR × aO := (r_en r (fu r.en s none), e_ds e)
  if y 5 = 14 then
    (if n = 69 ∧ y 16 < nr ∧ y 16 ≠ self ∧ e.on = none then
      ((r.se, r.dr, r.we, r.nx + 1, fu r.en s (some (e.fr, e.fn, some (y 16, r.nx), true, e.fw, e.bw, e.st)), r.ke), [(y 16, ce_k (nI r.nx) 10 (fun j => y (17 + j)) 68)])
    else out)
  else if y 5 = 1 then
    (if n = 1 ∧ s_at e.st id = none then
      (if e.st.length < 4 ∧ (y 16 = 1 ∨ y 16 = 2) then
        let e1 : aE := (e.fr, e.fn, e.on, e.wt, e.fw, e.bw, e.st ++ [(id, y 16, 4, 0)])
        (r_en r (fu r.en s (some (e_bk e1 4 id 0 d).1)), [(e_bk e1 4 id 0 d).2])
      else (r_en r (fu r.en s (some (e_bk e 3 id 0 d).1)), [(e_bk e 3 id 0 d).2]))
    else out)
  else if y 5 = 2 then
    (match s_at e.st id with
      | some k => r_ca r s e k n d
      | none => (r_en r (fu r.en s (some e)), []))
  else if y 5 = 3 then
    (match s_at e.st id with
      | some k => (r_en r (fu r.en s (some (e.fr, e.fn, e.on, e.wt, e.fw, e.bw, s_rm e.st k))), [])
      | none => (r_en r (fu r.en s (some e)), []))
  else if y 5 = 5 then
    (match s_at e.st id with
      | some k => (r_en r (fu r.en s (some (e.fr, e.fn, e.on, e.wt, e.fw, e.bw, e.st.set k (let q := e.st.getD k (0, 0, 0, 0); (q.id, q.so, q.wi + 2, q.ca))))), [])
      | none => (r_en r (fu r.en s (some e)), []))
  else out
/-- a relay takes a cell forwards at its entry s -/
def r_fw (nr self : Nat) (r : aR) (s : Nat) (e : aE) (x : aB) : aR × aO :=
  let y := ce_p x (cv_p e.fw.K e.fw.pos (fun k => x (5 + k)))
  let f1 := cv_l e.fw
  if rc_ok f1.ms y then r_do nr self r s (e.fr, e.fn, e.on, e.wt, rc_l f1 y, e.bw, e.st) y
  else match e.on with
    | some q => if e.wt then (r_en r (fu r.en s none), e_ds e) else (r_en r (fu r.en s (some (e.fr, e.fn, e.on, e.wt, f1, e.bw, e.st))), [(q.1, ce_k (nI q.2) 3 (fun k => y (5 + k)) 135)])
    | none => (r_en r (fu r.en s none), e_ds e)
def r_me (r : aR) (x : aB) : Bool := (List.range 36).all (fun i => decide (x (5 + i) = rs_i r.se i))
/-- a relay takes a cell from a node -/
def r_tk (nr self : Nat) (r : aR) (fr : Nat) (x : aB) : aR × aO :=
  let num := ce_n x
  if x 4 = 10 then
    (match (if e_fr r.en fr num = none ∧ r_me r x = true then e_fe r.en else none) with
      | some s => ((r.se, r.dr + 1, r.we, r.nx, fu r.en s (some (fr, num, none, false, ks_f (an_t r.se r.dr x), ks_b (an_t r.se r.dr x), [])), r.ke), [(fr, ce_k num 11 (an_p r.se r.dr x) 64)])
      | none => (r, [(fr, ce_k num 4 (fun _ => 0) 0)]))
  else if x 4 = 11 then
    (match e_to r.en fr num with
      | some s => (match r.en s with
        | some e => if e.wt then
            let e1 : aE := (e.fr, e.fn, e.on, false, e.fw, e.bw, e.st)
            (r_en r (fu r.en s (some (e_bk e1 15 0 64 (fun j => x (5 + j))).1)), [(e_bk e1 15 0 64 (fun j => x (5 + j))).2])
          else (r, [])
        | none => (r, []))
      | none => (r, []))
  else if x 4 = 3 then
    (match e_fr r.en fr num with
      | some s => (match r.en s with
        | some e => r_fw nr self r s e x
        | none => (r, []))
      | none => (match e_to r.en fr num with
        | some s => (match r.en s with
          | some e => if e.wt then (r, []) else (r_en r (fu r.en s (some (e.fr, e.fn, e.on, e.wt, e.fw, cv_l e.bw, e.st))), [(e.fr, ce_k e.fn 3 (cv_p e.bw.K e.bw.pos (fun k => x (5 + k))) 135)])
          | none => (r, []))
        | none => (r, [])))
  else if x 4 = 4 then
    (match e_fr r.en fr num with
      | some s => (match r.en s with
        | some e => (r_en r (fu r.en s none), match e.on with | some q => [(q.1, ce_k (nI q.2) 4 (fun _ => 0) 0)] | none => [])
        | none => (r, []))
      | none => (match e_to r.en fr num with
        | some s => (match r.en s with
          | some e => (r_en r (fu r.en s none), [(e.fr, ce_k e.fn 4 (fun _ => 0) 0)])
          | none => (r, []))
        | none => (r, [])))
  else (r, [])
/-- a link takes a cell while it has room -/
def l_ad (l : List aB) (x : aB) : List aB := if l.length < 8 then l ++ [x] else l
/-- a node's cells go on their links -/
def n_sd (from_ : Nat) (lk : Nat → List aB) : aO → (Nat → List aB)
  | [] => lk
  | q :: r => n_sd from_ (fu lk (10 * from_ + q.1) (l_ad (lk (10 * from_ + q.1)) q.2)) r
/-- circuits: cells for the last hop -/
def c_la (c : aC) (f : Nat → aL × aL) : aC := (c.cl, c.nu, c.pa, c.hp, c.ph, f, c.x, c.st)
/-- a payload covered by hops k - 1 down to 0 -/
def c_cv (la : Nat → aL × aL) : Nat → (Nat → Nat) → (Nat → aL × aL) × (Nat → Nat)
  | 0, p => (la, p)
  | k + 1, p => c_cv (fu la k (cv_l (la k).1, (la k).2)) k (cv_p (la k).1.K (la k).1.pos p)
def c_fo (c : aC) (cmd s n : Nat) (d : Nat → Nat) : aC × (Nat × aB) :=
  let l := (c.la (c.hp - 1)).1
  let la1 := fu c.la (c.hp - 1) ((l.ms ++ sp_sl (mk_c cmd s n d) 5 135, l.K, l.pos), (c.la (c.hp - 1)).2)
  let q := c_cv la1 c.hp (fun k => rc_s l.ms (mk_c cmd s n d) (5 + k))
  (c_la c q.1, (c.pa.getD 0 0, ce_k (nI c.nu) 3 q.2 135))
/-- a circuit is gone, and its streams -/
def c_go (c : aC) : aC := (c.cl, c.nu, c.pa, c.hp, 2, c.la, c.x, c.st.map (fun t => (2, t.wi, t.ca, t.wa, t.go)))
def c_ds (c : aC) : aC × aO := (c_go c, [(c.pa.getD 0 0, ce_k (nI c.nu) 4 (fun _ => 0) 0)])
/-- the next hop is asked: the client draws -/
def c_be (k : aK) : aK × (Nat → Nat) := ((k.se, k.dr + 1, k.nu), an_d k.se k.dr)
/-- an answer comes: 64 bytes -/
def c_an (rs : Nat → aR) (c : aC) (k : aK) (b : Nat → Nat) : aC × aK × aO :=
  let sd := (rs (c.pa.getD c.hp 0)).se
  if is_ok sd c.x b (fun j => b (32 + j)) 32 then
    let tx := is_t sd c.x b
    let c1 : aC := (c.cl, c.nu, c.pa, c.hp + 1, c.ph, fu c.la c.hp (ks_f tx, ks_b tx), c.x, c.st)
    if c.hp + 1 = c.pa.length then ((c1.cl, c1.nu, c1.pa, c1.hp, 1, c1.la, c1.x, c1.st), k, [])
    else
      let kx := c_be k
      let r2 := c.pa.getD (c.hp + 1) 0
      let c2 : aC := (c1.cl, c1.nu, c1.pa, c1.hp, c1.ph, c1.la, kx.2, c1.st)
      let o := c_fo c2 14 0 69 (fun j => if j = 0 then r2 else of_b (rs r2).se kx.2 (j - 1))
      (o.1, kx.1, [o.2])
  else ((c_ds c).1, k, (c_ds c).2)
/-- layers taken off, from hop k on: the first that recognizes it -/
def c_pe (la : Nat → aL × aL) (hp : Nat) : Nat → Nat → aB → (Nat → aL × aL) × aB × Option Nat
  | 0, _, y => (la, y, none)
  | m + 1, k, y =>
    let l := (la k).2
    let y1 := ce_p y (cv_p l.K l.pos (fun j => y (5 + j)))
    if rc_ok l.ms y1 then (fu la k ((la k).1, rc_l (cv_l l) y1), y1, some k)
    else c_pe (fu la k ((la k).1, cv_l l)) hp m (k + 1) y1
/-- what a client does with a cell that the last hop sent -/
def c_do (rs : Nat → aR) (c : aC) (k : aK) (y : aB) : aC × aK × aO :=
  let n := y 14 * 256 + y 15
  let s := y 8 * 256 + y 9
  let t := c.st.getD (s - 1) (0, 0, 0, [], [])
  let set : aT → aC := fun t => (c.cl, c.nu, c.pa, c.hp, c.ph, c.la, c.x, c.st.set (s - 1) t)
  if y 5 = 15 then (if n = 64 ∧ c.ph = 0 then c_an rs c k (fun j => y (16 + j)) else ((c_ds c).1, k, (c_ds c).2))
  else if y 5 = 4 then ((if 1 ≤ s ∧ s ≤ c.st.length ∧ t.ph = 0 then set (1, t.wi, t.ca, t.wa, t.go) else c), k, [])
  else if y 5 = 2 then
    (if 1 ≤ s ∧ s ≤ c.st.length ∧ t.ph = 1 then
      let c1 := set (t.ph, t.wi, t.ca + 1, t.wa, t.go ++ (sp_sl (fun j => y (16 + j)) 0 n).take (2000 - t.go.length))
      if i_rem (t.ca + 1) 2 = 0 then ((c_fo c1 5 s 0 (fun _ => 0)).1, k, [(c_fo c1 5 s 0 (fun _ => 0)).2]) else (c1, k, [])
    else (c, k, []))
  else if y 5 = 3 then ((if 1 ≤ s ∧ s ≤ c.st.length then set (2, t.wi, t.ca, t.wa, t.go) else c), k, [])
  else if y 5 = 5 then ((if 1 ≤ s ∧ s ≤ c.st.length ∧ t.ph ≠ 2 then set (t.ph, t.wi + 2, t.ca, t.wa, t.go) else c), k, [])
  else ((c_ds c).1, k, (c_ds c).2)
/-- a circuit takes a cell -/
def c_tk (rs : Nat → aR) (c : aC) (k : aK) (x : aB) : aC × aK × aO :=
  if x 4 = 11 then (if c.hp = 0 then c_an rs c k (fun j => x (5 + j)) else (c, k, []))
  else if x 4 = 3 then
    (if c.hp = 0 then (c, k, [])
    else
      let q := c_pe c.la c.hp c.hp 0 x
      if q.2.2 = some (c.hp - 1) then c_do rs (c_la c q.1) k q.2.1 else ((c_ds (c_la c q.1)).1, k, (c_ds (c_la c q.1)).2))
  else if x 4 = 4 then (c_go c, k, [])
  else (c, k, [])
/-- the circuit that a cell belongs to -/
def n_ci (a : aN) (cl fr : Nat) (num : Int32) : Option Nat := (List.range a.nc).find? (fun i => decide ((a.c i).cl + 8 = cl) && decide (nI (a.c i).nu = num) && decide ((a.c i).pa.getD 0 0 = fr) && decide ((a.c i).ph ≠ 2))
def n_lk (a : aN) (lk : Nat → List aB) : aN := (a.nr, a.r, a.nk, a.k, a.nc, a.c, lk)
/-- the first cell of a link is handed over -/
def n_ho (a : aN) (fr to : Nat) : aN :=
  match a.lk (10 * fr + to) with
  | [] => a
  | x :: l =>
    let lk := fu a.lk (10 * fr + to) l
    if to < 8 then
      let q := r_tk a.nr to (a.r to) fr x
      (a.nr, fu a.r to q.1, a.nk, a.k, a.nc, a.c, n_sd to lk q.2)
    else match n_ci a to fr (ce_n x) with
      | none => n_lk a lk
      | some i =>
        let q := c_tk a.r (a.c i) (a.k (to - 8)) x
        (a.nr, a.r, a.nk, fu a.k (to - 8) q.2.1, a.nc, fu a.c i q.1, n_sd to lk q.2.2)
