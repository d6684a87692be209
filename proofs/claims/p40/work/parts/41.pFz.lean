/-! which exception came, as a number: what the reference's rows say of it -/
def lw_k (es : List String) (r : Int32 ⊕ String) : Int32 := gw_xb r (fun _ => 0) (fun e => nI (es.findIdx (fun z => z == e) + 1))
