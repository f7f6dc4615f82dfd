theorem inL {i : Nat} {w : Cond} (h : wsL_law[i]? = some w) : w ∈ wsL_law := List.mem_of_getElem? h
