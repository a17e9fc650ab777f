/-! THE CLAIM OUT OF ONE WALK OF THE LAW'S BODY. Your part is whole_start (and what it stands on); all else here is the same for every law, but numbers. -/
def R_law : String := "CellSlideLaw"
def lw_P (b : Addr) (xs : List Int32) (args : Array Value) (s : State) : Prop := args = #[.ref b] ∧ s.IntsAt b xs ∧ xs.length ≤ 6 ∧ (Jvm.Cond.and given_1 narrow_1).before args s = true
def lw_Q (_ : Array Value) (s : State) (o : Outcome) (t : State) : Prop := o = .returned (some (.int 1)) ∧ Framed s o t [] 600000 7302250
def lw_Z (below : List Frame) (a : Array Value) (s : State) : State → Prop := fun t => ∃ o, t.status = .running ∧ Ended t below o ∧ lw_Q a s o t
/-- the law's own end, with 1 on the stack, nothing written that was there before, its room as the claim has it -/
theorem lw_ret {p : Program} {l : Launch} {e : Env} {s : State} {m : MethodId} {below : List Frame} {meth : Method} {c : Code} {b : Nat} (hx : p.tables.exec = Jvm.exec) (hb : c.code = code) (hr : meth.sig.returnType = ret) (hlocks : meth.locks = false) {pc : Nat} {H : Heap} {ls : Array Slot} (hdg : decode code pc = .ok (.ireturn, 1)) : W p l e room_1 s m #[Value.ref b] below meth c H [] 600000 7302250 (lw_Z below #[Value.ref b] s) (F0 m pc ls [.int 1]) := by
  intro T hT X
  obtain ⟨fs, hret, hrun, hended, hW, hframe⟩ := X.leave (v := some (.int 1)) (hlocks := hlocks) (fun h => by rw [hr] at h; cases h)
  have hmeth' : T.vm.method? m = some meth := X.method'
  refine ⟨T.setFrames fs, ?_, .returned (some (.int 1)), hrun, hended, rfl, ⟨_, rfl⟩, hW, hframe⟩
  jvm_step X.here [X.here.top, hx, hb, hdg, hmeth', hr, ret, narrow_b1]
  (try refine ⟨rfl, ?_⟩); (try refine ⟨rfl, ?_⟩)
  first | (intro acts; rw [hret _ acts rfl rfl rfl]) | rw [hret _ _ rfl rfl rfl]
  exact Steps.refl _
/-- what holds at the law's entry: the machine, the code, the tables' words (any of lw_tbl by 'hts w (by decide +kernel)'), the script of L ints xs at the cell b, what the Statement gives of the start (any of its parts by flat_of_before) -/
def lw_At (p : Program) (s : State) (m : MethodId) (meth : Method) (c : Code) (b L : Nat) (xs : Nat → Int32) : Prop :=
  p.tables.exec = Jvm.exec ∧ c.code = code ∧ meth.sig.returnType = ret ∧ c.maxLocals = 4 ∧ s.vm.findClass R_law = some m.cls ∧ (∀ w ∈ lw_tbl, w.before #[Value.ref b] s = true) ∧ va_X b L xs s s.heap ∧ b < s.heap.size ∧ meth.locks = false ∧ (Jvm.Cond.and given_1 narrow_1).before #[Value.ref b] s = true

def wd_897 (r : Nat → Nat) (k : Nat → ClassId) (rm : Nat → Nat) (km : Nat → ClassId) : va_W := [((r 0), .inr (11, [.ref (r 1), .ref (r 2), .ref (r 3), .ref (r 4), .ref (r 5), .ref (r 6), .ref (r 7), .ref (r 8), .ref (r 9), .ref (r 10), .ref (r 11), .ref (r 12), .ref (r 13), .ref (r 14), .ref (r 15), .int 0, .int 0, .ref (r 16), .int (-1), .ref (r 17)])), ((r 1), .inr (10, [.ref (r 18), .int 0, .int 0, .int 0, .int (-1), .int (-1), .long 0, .int 0, .int 0, .int (-1)])), ((r 18), .inl ((k 0), 1600, .inl (fun _ => 0))), ((r 14), .inl ((k 1), 7, .inl (fun _ => 0))), ((r 4), .inr (8, [.int 0, .int 0, .int 0, .ref (r 19), .int 0, .int 0, .ref (r 20), .int 0, .int 0, .int 0, .int 0, .int 0, .int 0, .ref (r 21)])), ((r 2), .inr (2, [.int 0, .ref (r 22), .ref (r 23), .ref (r 24)])), ((r 3), .inr (2, [.int 0, .ref (r 25), .ref (r 26), .ref (r 27)])), ((r 5), .inr (8, [.int 0, .int 0, .int 0, .ref (r 28), .int 0, .int 0, .ref (r 29), .int 0, .int 0, .int 0, .int 0, .int 0, .int 0, .ref (r 30)])), ((r 28), .inl ((k 2), 168, .inl (fun _ => 0))), ((r 8), .inr (1, [.ref (r 1), .ref (r 3), .ref (r 5), .ref (r 31), .ref (r 32), .int 0, .int 0, .int 3047])), ((r 10), .inr (5, [.ref (r 4), .ref (r 2), .ref (r 7), .ref (r 9), .ref (r 33), .ref (r 34), .int 0, .int 0, .int 0, .int 0, .int (-1)])), ((r 11), .inr (0, [.ref (r 2), .ref (r 7), .long 1])), ((r 12), .inr (6, [.ref (r 7), .ref (r 35), .ref (r 36), .ref (r 37), .int 0, .ref (r 38), .int 0, .int (-1), .int (-1), .null, .null])), ((r 13), .inr (3, [.ref (r 2), .ref (r 39), .int 0])), ((rm 0), .inr (12, [.ref (rm 1), .int 0, .int 0, .int 0, .int 0, .int 0, .int 0, .int 0, .int (-1), .ref (rm 2), .ref (rm 3), .ref (rm 4), .ref (rm 5), .ref (rm 6), .ref (rm 7), .ref (rm 8), .ref (rm 9), .ref (rm 10), .ref (rm 11), .ref (rm 12), .ref (rm 13), .ref (rm 14), .ref (rm 15), .ref (rm 16), .int 0, .int 0, .int 0, .int 0, .int 0, .ref (rm 17), .ref (rm 18), .ref (rm 19), .ref (rm 20), .ref (rm 21), .int 0, .ref (rm 22), .ref (rm 23), .ref (rm 24), .int 0, .int 0, .int 0, .ref (rm 25), .ref (rm 26), .ref (rm 27), .int 0, .ref (rm 28), .ref (rm 29), .int 0, .ref (rm 30), .ref (rm 31), .int 0, .ref (rm 32), .ref (rm 33), .int 0, .ref (rm 34), .ref (rm 35), .int 0, .int 0, .int 0, .ref (rm 36), .ref (rm 37), .int 0, .ref (rm 38), .ref (rm 39), .int 0, .ref (rm 40), .ref (rm 41), .ref (rm 42), .int 0, .int 0, .long 1, .ref (rm 43), .int 0, .int 0, .int (-1), .int 0, .int 0, .int 0, .int 0, .ref (rm 44), .ref (rm 45), .ref (rm 46), .ref (rm 47), .int 0])), ((rm 1), .inl ((km 0), 1600, .inl (fun _ => 0))), ((rm 2), .inl ((km 1), 7, .inl (fun _ => 0))), ((rm 22), .inl ((km 2), 422, .inl (fun _ => 0))), ((rm 23), .inl ((km 3), 422, .inl (fun _ => 0)))]
def wd_898 (q1859 : Nat) : va_W := [(q1859, .inr (11, [.null, .null, .null, .null, .null, .null, .null, .null, .null, .null, .null, .null, .null, .null, .null, .int 0, .int 0, .null, .int 0, .null]))]
def wd_899 (q1859 : Nat) (q1861 : Nat) (q1862 : Nat) (q1863 : Nat) (q1864 : Nat) (q1865 : Nat) (q1866 : Nat) (q1867 : Nat) (q1868 : Nat) (q1869 : Nat) (q1870 : Nat) (q1871 : Nat) (q1872 : Nat) (q1873 : Nat) (q1874 : Nat) (q1875 : Nat) (q1876 : Nat) (q1877 : Nat) (q1878 : Nat) (cA1879 : ClassId) (cA1880 : ClassId) (q1881 : Nat) (q1882 : Nat) (q1883 : Nat) (q1884 : Nat) (q1885 : Nat) (q1886 : Nat) (q1887 : Nat) (q1888 : Nat) (q1889 : Nat) (q1890 : Nat) (q1891 : Nat) (q1892 : Nat) (cA1893 : ClassId) (q1894 : Nat) (q1895 : Nat) (q1896 : Nat) (q1897 : Nat) (q1898 : Nat) (q1899 : Nat) (q1900 : Nat) (q1901 : Nat) (q1902 : Nat) : va_W := [(q1859, .inr (11, [.ref q1861, .ref q1862, .ref q1863, .ref q1864, .ref q1865, .ref q1866, .ref q1867, .ref q1868, .ref q1869, .ref q1870, .ref q1871, .ref q1872, .ref q1873, .ref q1874, .ref q1875, .int 0, .int 0, .ref q1876, .int (-1), .ref q1877])), (q1861, .inr (10, [.ref q1878, .int 0, .int 0, .int 0, .int (-1), .int (-1), .long 0, .int 0, .int 0, .int (-1)])), (q1878, .inl (cA1879, 1600, .inl (fun _ => 0))), (q1874, .inl (cA1880, 7, .inl (fun _ => 0))), (q1864, .inr (8, [.int 0, .int 0, .int 0, .ref q1881, .int 0, .int 0, .ref q1882, .int 0, .int 0, .int 0, .int 0, .int 0, .int 0, .ref q1883])), (q1862, .inr (2, [.int 0, .ref q1884, .ref q1885, .ref q1886])), (q1863, .inr (2, [.int 0, .ref q1887, .ref q1888, .ref q1889])), (q1865, .inr (8, [.int 0, .int 0, .int 0, .ref q1890, .int 0, .int 0, .ref q1891, .int 0, .int 0, .int 0, .int 0, .int 0, .int 0, .ref q1892])), (q1890, .inl (cA1893, 168, .inl (fun _ => 0))), (q1868, .inr (1, [.ref q1861, .ref q1863, .ref q1865, .ref q1894, .ref q1895, .int 0, .int 0, .int 3047])), (q1870, .inr (5, [.ref q1864, .ref q1862, .ref q1867, .ref q1869, .ref q1896, .ref q1897, .int 0, .int 0, .int 0, .int 0, .int (-1)])), (q1871, .inr (0, [.ref q1862, .ref q1867, .long 1])), (q1872, .inr (6, [.ref q1867, .ref q1898, .ref q1899, .ref q1900, .int 0, .ref q1901, .int 0, .int (-1), .int (-1), .null, .null])), (q1873, .inr (3, [.ref q1862, .ref q1902, .int 0]))]
def wd_900 (q1859 : Nat) (q1861 : Nat) (q1862 : Nat) (q1863 : Nat) (q1864 : Nat) (q1865 : Nat) (q1866 : Nat) (q1867 : Nat) (q1868 : Nat) (q1869 : Nat) (q1870 : Nat) (q1871 : Nat) (q1872 : Nat) (q1873 : Nat) (q1874 : Nat) (q1875 : Nat) (q1876 : Nat) (q1877 : Nat) (q1878 : Nat) (cA1879 : ClassId) (cA1880 : ClassId) (q1881 : Nat) (q1882 : Nat) (q1883 : Nat) (q1884 : Nat) (q1885 : Nat) (q1886 : Nat) (q1887 : Nat) (q1888 : Nat) (q1889 : Nat) (q1890 : Nat) (q1891 : Nat) (q1892 : Nat) (cA1893 : ClassId) (q1894 : Nat) (q1895 : Nat) (q1896 : Nat) (q1897 : Nat) (q1898 : Nat) (q1899 : Nat) (q1900 : Nat) (q1901 : Nat) (q1902 : Nat) (q1903 : Nat) : va_W := [(q1859, .inr (11, [.ref q1861, .ref q1862, .ref q1863, .ref q1864, .ref q1865, .ref q1866, .ref q1867, .ref q1868, .ref q1869, .ref q1870, .ref q1871, .ref q1872, .ref q1873, .ref q1874, .ref q1875, .int 0, .int 0, .ref q1876, .int (-1), .ref q1877])), (q1861, .inr (10, [.ref q1878, .int 0, .int 0, .int 0, .int (-1), .int (-1), .long 0, .int 0, .int 0, .int (-1)])), (q1878, .inl (cA1879, 1600, .inl (fun _ => 0))), (q1874, .inl (cA1880, 7, .inl (fun _ => 0))), (q1864, .inr (8, [.int 0, .int 0, .int 0, .ref q1881, .int 0, .int 0, .ref q1882, .int 0, .int 0, .int 0, .int 0, .int 0, .int 0, .ref q1883])), (q1862, .inr (2, [.int 0, .ref q1884, .ref q1885, .ref q1886])), (q1863, .inr (2, [.int 0, .ref q1887, .ref q1888, .ref q1889])), (q1865, .inr (8, [.int 0, .int 0, .int 0, .ref q1890, .int 0, .int 0, .ref q1891, .int 0, .int 0, .int 0, .int 0, .int 0, .int 0, .ref q1892])), (q1890, .inl (cA1893, 168, .inl (fun _ => 0))), (q1868, .inr (1, [.ref q1861, .ref q1863, .ref q1865, .ref q1894, .ref q1895, .int 0, .int 0, .int 3047])), (q1870, .inr (5, [.ref q1864, .ref q1862, .ref q1867, .ref q1869, .ref q1896, .ref q1897, .int 0, .int 0, .int 0, .int 0, .int (-1)])), (q1871, .inr (0, [.ref q1862, .ref q1867, .long 1])), (q1872, .inr (6, [.ref q1867, .ref q1898, .ref q1899, .ref q1900, .int 0, .ref q1901, .int 0, .int (-1), .int (-1), .null, .null])), (q1873, .inr (3, [.ref q1862, .ref q1902, .int 0])), (q1903, .inr (12, [.null, .int 0, .int 0, .int 0, .int 0, .int 0, .int 0, .int 0, .int 0, .null, .null, .null, .null, .null, .null, .null, .null, .null, .null, .null, .null, .null, .null, .null, .int 0, .int 0, .int 0, .int 0, .int 0, .null, .null, .null, .null, .null, .int 0, .null, .null, .null, .int 0, .int 0, .int 0, .null, .null, .null, .int 0, .null, .null, .int 0, .null, .null, .int 0, .null, .null, .int 0, .null, .null, .int 0, .int 0, .int 0, .null, .null, .int 0, .null, .null, .int 0, .null, .null, .null, .int 0, .int 0, .long 0, .null, .int 0, .int 0, .int 0, .int 0, .int 0, .int 0, .int 0, .null, .null, .null, .null, .int 0]))]
def wd_901 (q1903 : Nat) : va_W := [(q1903, .inr (12, [.null, .int 0, .int 0, .int 0, .int 0, .int 0, .int 0, .int 0, .int 0, .null, .null, .null, .null, .null, .null, .null, .null, .null, .null, .null, .null, .null, .null, .null, .int 0, .int 0, .int 0, .int 0, .int 0, .null, .null, .null, .null, .null, .int 0, .null, .null, .null, .int 0, .int 0, .int 0, .null, .null, .null, .int 0, .null, .null, .int 0, .null, .null, .int 0, .null, .null, .int 0, .null, .null, .int 0, .int 0, .int 0, .null, .null, .int 0, .null, .null, .int 0, .null, .null, .null, .int 0, .int 0, .long 0, .null, .int 0, .int 0, .int 0, .int 0, .int 0, .int 0, .int 0, .null, .null, .null, .null, .int 0]))]
def wd_902 (q1903 : Nat) (q1905 : Nat) (q1906 : Nat) (q1907 : Nat) (q1908 : Nat) (q1909 : Nat) (q1910 : Nat) (q1911 : Nat) (q1912 : Nat) (q1913 : Nat) (q1914 : Nat) (q1915 : Nat) (q1916 : Nat) (q1917 : Nat) (q1918 : Nat) (q1919 : Nat) (q1920 : Nat) (q1921 : Nat) (q1922 : Nat) (q1923 : Nat) (q1924 : Nat) (q1925 : Nat) (q1926 : Nat) (q1927 : Nat) (q1928 : Nat) (q1929 : Nat) (q1930 : Nat) (q1931 : Nat) (q1932 : Nat) (q1933 : Nat) (q1934 : Nat) (q1935 : Nat) (q1936 : Nat) (q1937 : Nat) (q1938 : Nat) (q1939 : Nat) (q1940 : Nat) (q1941 : Nat) (q1942 : Nat) (q1943 : Nat) (q1944 : Nat) (q1945 : Nat) (q1946 : Nat) (q1947 : Nat) (q1948 : Nat) (q1949 : Nat) (q1950 : Nat) (q1951 : Nat) (cA1952 : ClassId) (cA1953 : ClassId) (cA1954 : ClassId) (cA1955 : ClassId) : va_W := [(q1903, .inr (12, [.ref q1905, .int 0, .int 0, .int 0, .int 0, .int 0, .int 0, .int 0, .int (-1), .ref q1906, .ref q1907, .ref q1908, .ref q1909, .ref q1910, .ref q1911, .ref q1912, .ref q1913, .ref q1914, .ref q1915, .ref q1916, .ref q1917, .ref q1918, .ref q1919, .ref q1920, .int 0, .int 0, .int 0, .int 0, .int 0, .ref q1921, .ref q1922, .ref q1923, .ref q1924, .ref q1925, .int 0, .ref q1926, .ref q1927, .ref q1928, .int 0, .int 0, .int 0, .ref q1929, .ref q1930, .ref q1931, .int 0, .ref q1932, .ref q1933, .int 0, .ref q1934, .ref q1935, .int 0, .ref q1936, .ref q1937, .int 0, .ref q1938, .ref q1939, .int 0, .int 0, .int 0, .ref q1940, .ref q1941, .int 0, .ref q1942, .ref q1943, .int 0, .ref q1944, .ref q1945, .ref q1946, .int 0, .int 0, .long 1, .ref q1947, .int 0, .int 0, .int (-1), .int 0, .int 0, .int 0, .int 0, .ref q1948, .ref q1949, .ref q1950, .ref q1951, .int 0])), (q1905, .inl (cA1952, 1600, .inl (fun _ => 0))), (q1906, .inl (cA1953, 7, .inl (fun _ => 0))), (q1926, .inl (cA1954, 422, .inl (fun _ => 0))), (q1927, .inl (cA1955, 422, .inl (fun _ => 0)))]
def wd_903 (q1859 : Nat) (q1861 : Nat) (q1862 : Nat) (q1863 : Nat) (q1864 : Nat) (q1865 : Nat) (q1866 : Nat) (q1867 : Nat) (q1868 : Nat) (q1869 : Nat) (q1870 : Nat) (q1871 : Nat) (q1872 : Nat) (q1873 : Nat) (q1874 : Nat) (q1875 : Nat) (q1876 : Nat) (q1877 : Nat) (q1878 : Nat) (cA1879 : ClassId) (cA1880 : ClassId) (q1881 : Nat) (q1882 : Nat) (q1883 : Nat) (q1884 : Nat) (q1885 : Nat) (q1886 : Nat) (q1887 : Nat) (q1888 : Nat) (q1889 : Nat) (q1890 : Nat) (q1891 : Nat) (q1892 : Nat) (cA1893 : ClassId) (q1894 : Nat) (q1895 : Nat) (q1896 : Nat) (q1897 : Nat) (q1898 : Nat) (q1899 : Nat) (q1900 : Nat) (q1901 : Nat) (q1902 : Nat) (q1903 : Nat) (q1905 : Nat) (q1906 : Nat) (q1907 : Nat) (q1908 : Nat) (q1909 : Nat) (q1910 : Nat) (q1911 : Nat) (q1912 : Nat) (q1913 : Nat) (q1914 : Nat) (q1915 : Nat) (q1916 : Nat) (q1917 : Nat) (q1918 : Nat) (q1919 : Nat) (q1920 : Nat) (q1921 : Nat) (q1922 : Nat) (q1923 : Nat) (q1924 : Nat) (q1925 : Nat) (q1926 : Nat) (q1927 : Nat) (q1928 : Nat) (q1929 : Nat) (q1930 : Nat) (q1931 : Nat) (q1932 : Nat) (q1933 : Nat) (q1934 : Nat) (q1935 : Nat) (q1936 : Nat) (q1937 : Nat) (q1938 : Nat) (q1939 : Nat) (q1940 : Nat) (q1941 : Nat) (q1942 : Nat) (q1943 : Nat) (q1944 : Nat) (q1945 : Nat) (q1946 : Nat) (q1947 : Nat) (q1948 : Nat) (q1949 : Nat) (q1950 : Nat) (q1951 : Nat) (cA1952 : ClassId) (cA1953 : ClassId) (cA1954 : ClassId) (cA1955 : ClassId) : va_W := [(q1859, .inr (11, [.ref q1861, .ref q1862, .ref q1863, .ref q1864, .ref q1865, .ref q1866, .ref q1867, .ref q1868, .ref q1869, .ref q1870, .ref q1871, .ref q1872, .ref q1873, .ref q1874, .ref q1875, .int 0, .int 0, .ref q1876, .int (-1), .ref q1877])), (q1861, .inr (10, [.ref q1878, .int 0, .int 0, .int 0, .int (-1), .int (-1), .long 0, .int 0, .int 0, .int (-1)])), (q1878, .inl (cA1879, 1600, .inl (fun _ => 0))), (q1874, .inl (cA1880, 7, .inl (fun _ => 0))), (q1864, .inr (8, [.int 0, .int 0, .int 0, .ref q1881, .int 0, .int 0, .ref q1882, .int 0, .int 0, .int 0, .int 0, .int 0, .int 0, .ref q1883])), (q1862, .inr (2, [.int 0, .ref q1884, .ref q1885, .ref q1886])), (q1863, .inr (2, [.int 0, .ref q1887, .ref q1888, .ref q1889])), (q1865, .inr (8, [.int 0, .int 0, .int 0, .ref q1890, .int 0, .int 0, .ref q1891, .int 0, .int 0, .int 0, .int 0, .int 0, .int 0, .ref q1892])), (q1890, .inl (cA1893, 168, .inl (fun _ => 0))), (q1868, .inr (1, [.ref q1861, .ref q1863, .ref q1865, .ref q1894, .ref q1895, .int 0, .int 0, .int 3047])), (q1870, .inr (5, [.ref q1864, .ref q1862, .ref q1867, .ref q1869, .ref q1896, .ref q1897, .int 0, .int 0, .int 0, .int 0, .int (-1)])), (q1871, .inr (0, [.ref q1862, .ref q1867, .long 1])), (q1872, .inr (6, [.ref q1867, .ref q1898, .ref q1899, .ref q1900, .int 0, .ref q1901, .int 0, .int (-1), .int (-1), .null, .null])), (q1873, .inr (3, [.ref q1862, .ref q1902, .int 0])), (q1903, .inr (12, [.ref q1905, .int 0, .int 0, .int 0, .int 0, .int 0, .int 0, .int 0, .int (-1), .ref q1906, .ref q1907, .ref q1908, .ref q1909, .ref q1910, .ref q1911, .ref q1912, .ref q1913, .ref q1914, .ref q1915, .ref q1916, .ref q1917, .ref q1918, .ref q1919, .ref q1920, .int 0, .int 0, .int 0, .int 0, .int 0, .ref q1921, .ref q1922, .ref q1923, .ref q1924, .ref q1925, .int 0, .ref q1926, .ref q1927, .ref q1928, .int 0, .int 0, .int 0, .ref q1929, .ref q1930, .ref q1931, .int 0, .ref q1932, .ref q1933, .int 0, .ref q1934, .ref q1935, .int 0, .ref q1936, .ref q1937, .int 0, .ref q1938, .ref q1939, .int 0, .int 0, .int 0, .ref q1940, .ref q1941, .int 0, .ref q1942, .ref q1943, .int 0, .ref q1944, .ref q1945, .ref q1946, .int 0, .int 0, .long 1, .ref q1947, .int 0, .int 0, .int (-1), .int 0, .int 0, .int 0, .int 0, .ref q1948, .ref q1949, .ref q1950, .ref q1951, .int 0])), (q1905, .inl (cA1952, 1600, .inl (fun _ => 0))), (q1906, .inl (cA1953, 7, .inl (fun _ => 0))), (q1926, .inl (cA1954, 422, .inl (fun _ => 0))), (q1927, .inl (cA1955, 422, .inl (fun _ => 0)))]
def lw_C (p : Program) (s : State) (m : MethodId) (meth : Method) (c : Code) (b L : Nat) (xs : Nat → Int32) (A : Nat → Prop) : Prop := p.tables.exec = Jvm.exec ∧ c.code = code ∧ meth.sig.returnType = ret ∧ c.maxLocals = 4 ∧ s.vm.findClass RL = some m.cls ∧ (∀ w ∈ wA, w.before #[Value.ref b] s = true) ∧ meth.locks = false ∧ va_X b L xs s s.heap ∧ b < s.heap.size ∧ (∀ q : Nat, s.heap.size ≤ q → A q) ∧ (∀ q : Nat, A q → s.heap.size ≤ q) ∧ ¬ A b
theorem law_exit {p : Program} {l : Launch} {e : Env} {s : State} {m : MethodId} {below : List Frame} {meth : Method} {c : Code} {b : Nat} {xs : Nat → Int32} {A : Nat → Prop} {H : Heap} {locs : List Loc} {ls : Array Slot} {L : Nat} (C1 : lw_C p s m meth c b L xs A) (hS : va_S A s.heap H locs) : W p l e room_1 s m #[Value.ref b] below meth c H locs 179 95325 (lw_Z below #[Value.ref b] s) (F0 m 1171 ls []) := by
  obtain ⟨hx, hb, hr, hml, hown, hts, hlocks, hX, hbl, hA, hAl, hbA⟩ := id C1
  refine lv_iconst (v := 1) hx hb dL_law_1171 (by decide) ?_
  refine va_forget (fun q hq => hAl _ (hS.2.2 q hq)) ?_
  refine W.widen (k := 600000) (n := 7302250) (Nat.le_of_ble_eq_true rfl) (Nat.le_of_ble_eq_true rfl) ?_
  exact lw_ret hx hb hr hlocks dL_law_1172
theorem law_tail {p : Program} {l : Launch} {e : Env} {s : State} {m : MethodId} {below : List Frame} {meth : Method} {c : Code} {b : Nat} {xs : Nat → Int32} {A : Nat → Prop} {H : Heap} {locs : List Loc} {ls : Array Slot} (C1 : lw_C p s m meth c b 6 xs A) (hS : va_S A s.heap H locs) (hl : lv_has ls 4 [(3, .int 0), (0, .ref b)]) : W p l e room_1 s m #[Value.ref b] below meth c H locs 179 95325 (lw_Z below #[Value.ref b] s) (F0 m 1165 ls []) := by
  obtain ⟨hx, hb, hr, hml, hown, hts, hlocks, hX, hbl, hA, hAl, hbA⟩ := id C1
  refine lv_iinc (v := 6) (lv' := [(3, .int 6), (0, .ref b)]) hx hb dL_law_1165 hl (k := 0) rfl (by decide) (by decide) rfl (fun ls hl => ?_)
  refine lv_goto (tgt := 18) hx hb dL_law_1168 (by decide) ?_
  refine lv_iload_n hx hb dL_law_18 rfl (lv_at hl 0 rfl) ?_
  refine lv_aload_n hx hb dL_law_19 rfl (lv_at hl 1 rfl) ?_
  refine va_slen hx hb hX hbl hbA hS dL_law_20 ?_
  refine lv_topi (fun x_1591 ex_1591 => ?_)
  obtain rfl : x_1591 = 6 := ex_1591.trans (by decide)
  refine lv_bipush (v := 6) hx hb dL_law_21 (by decide) ?_
  refine lv_isub hx hb dL_law_23 ?_
  refine lv_topi (fun x_1592 ex_1592 => ?_)
  obtain rfl : x_1592 = 0 := ex_1592.trans (by decide)
  refine lv_icmp_gt (tgt := 1171) hx hb dL_law_24 (by decide) (fun c_0 => ?_) (fun c_0 => absurd c_0 (by decide))
  exact law_exit C1 hS
set_option maxHeartbeats 4000000 in
set_option maxRecDepth 100000 in
theorem law_c0 {p : Program} {l : Launch} {e : Env} {s : State} {m : MethodId} {below : List Frame} {meth : Method} {c : Code} {b : Nat} {xs : Nat → Int32} {A : Nat → Prop} {H : Heap} {locs : List Loc} {ls : Array Slot} {dC : Nat → ClassId} {dI : Nat → Nat → Nat} {r : Nat → Nat} {k : Nat → ClassId} {rm : Nat → Nat} {km : Nat → ClassId} (C1 : lw_C p s m meth c b 6 xs A) (hP : va_P (dC, dI) vwCl (wd_897 r k rm km) H) (hD : va_D A (wd_897 r k rm km)) (hK : va_K (dC, dI) vwCl [((k 0), .int), ((k 1), .int), ((k 2), .int), ((km 0), .int), ((km 1), .int), ((km 2), .int), ((km 3), .int)] s) (hS : va_S A s.heap H locs) (hl : lv_has ls 4 [(3, .int 0), (2, .ref (rm 0)), (1, .ref (r 0)), (0, .ref b)]) : W p l e room_1 s m #[Value.ref b] below meth c H locs 179 95325 (lw_Z below #[Value.ref b] s) (F0 m 212 ls []) := by
  obtain ⟨hx, hb, hr, hml, hown, hts, hlocks, hX, hbl, hA, hAl, hbA⟩ := id C1
  refine lv_aload_n hx hb dL_law_212 rfl (lv_at hl 2 rfl) ?_
  refine lv_aload_n hx hb dL_law_213 rfl (lv_at hl 3 rfl) ?_
  refine lv_iload_n hx hb dL_law_214 rfl (lv_at hl 0 rfl) ?_
  refine lv_iconst (v := 1) hx hb dL_law_215 (by decide) ?_
  refine lv_iadd hx hb dL_law_216 ?_
  refine lv_topi (fun x_1593 ex_1593 => ?_)
  obtain rfl : x_1593 = 1 := ex_1593.trans (by decide)
  refine va_sld hx hb hX hbl hbA hS (vpi (by decide)) dL_law_217 ?_
  refine lv_topi (fun x_1594 ex_1594 => ?_)
  obtain rfl : x_1594 = xs 1 := ex_1594
  refine lv_aload_n hx hb dL_law_218 rfl (lv_at hl 3 rfl) ?_
  refine lv_iload_n hx hb dL_law_219 rfl (lv_at hl 0 rfl) ?_
  refine lv_iconst (v := 2) hx hb dL_law_220 (by decide) ?_
  refine lv_iadd hx hb dL_law_221 ?_
  refine lv_topi (fun x_1595 ex_1595 => ?_)
  obtain rfl : x_1595 = 2 := ex_1595.trans (by decide)
  refine va_sld hx hb hX hbl hbA hS (vpi (by decide)) dL_law_222 ?_
  refine lv_topi (fun x_1596 ex_1596 => ?_)
  obtain rfl : x_1596 = xs 2 := ex_1596
  refine lv_aload_n hx hb dL_law_223 rfl (lv_at hl 3 rfl) ?_
  refine lv_iload_n hx hb dL_law_224 rfl (lv_at hl 0 rfl) ?_
  refine lv_iconst (v := 3) hx hb dL_law_225 (by decide) ?_
  refine lv_iadd hx hb dL_law_226 ?_
  refine lv_topi (fun x_1597 ex_1597 => ?_)
  obtain rfl : x_1597 = 3 := ex_1597.trans (by decide)
  refine va_sld hx hb hX hbl hbA hS (vpi (by decide)) dL_law_227 ?_
  refine lv_topi (fun x_1598 ex_1598 => ?_)
  obtain rfl : x_1598 = xs 3 := ex_1598
  refine lv_aload_n hx hb dL_law_228 rfl (lv_at hl 3 rfl) ?_
  refine lv_iload_n hx hb dL_law_229 rfl (lv_at hl 0 rfl) ?_
  refine lv_iconst (v := 4) hx hb dL_law_230 (by decide) ?_
  refine lv_iadd hx hb dL_law_231 ?_
  refine lv_topi (fun x_1599 ex_1599 => ?_)
  obtain rfl : x_1599 = 4 := ex_1599.trans (by decide)
  refine va_sld hx hb hX hbl hbA hS (vpi (by decide)) dL_law_232 ?_
  refine lv_topi (fun x_1600 ex_1600 => ?_)
  obtain rfl : x_1600 = xs 4 := ex_1600
  refine lv_aload_n hx hb dL_law_233 rfl (lv_at hl 3 rfl) ?_
  refine lv_iload_n hx hb dL_law_234 rfl (lv_at hl 0 rfl) ?_
  refine lv_iconst (v := 5) hx hb dL_law_235 (by decide) ?_
  refine lv_iadd hx hb dL_law_236 ?_
  refine lv_topi (fun x_1601 ex_1601 => ?_)
  obtain rfl : x_1601 = 5 := ex_1601.trans (by decide)
  refine va_sld hx hb hX hbl hbA hS (vpi (by decide)) dL_law_237 ?_
  refine lv_topi (fun x_1602 ex_1602 => ?_)
  obtain rfl : x_1602 = xs 5 := ex_1602
  have hPc := hP.sub (ws' := (wd_495 r k)) [0, 1, 2, 3, 4, 5, 6, 7, 8, 9, 10, 11, 12, 13] rfl
  have hDc := hD.sub (ws' := (wd_495 r k)) [0, 1, 2, 3, 4, 5, 6, 7, 8, 9, 10, 11, 12, 13] (by decide) rfl
  have hKc := hK.sub (tys' := [((k 0), .int), ((k 1), .int), ((k 2), .int)]) [0, 1, 2] rfl
  have hFc := va_free (wc := (wd_495 r k)) hD hS hA [0, 1, 2, 3, 4, 5, 6, 7, 8, 9, 10, 11, 12, 13] rfl
  refine va_calli (va_runV (As := [.int (xs 1), .int (xs 2), .int (xs 3), .int (xs 4), .int (xs 5)]) (rest := []) ⟨hx, hb, hml, hown, hts⟩ (mX11_feed l dC dI r k (xs 1) (xs 2) (xs 3) (xs 4) (xs 5) H.size) (cwV 5 hts (gV q_500 q_501 q_502 q_257 q_246) rfl rfl rfl mdv_yX11_feed ⟨Nat.le_of_ble_eq_true rfl, Nat.le_of_ble_eq_true rfl⟩) ⟨fun a U g mk q => by obtain ⟨q0, q1, qP, qK, qD⟩ := q; exact ⟨q0, q1, qP, va_K.moved (u := U) (U := U.calling g mk a) (Vm.Alike.refl U.vm) qK, qD⟩, va_recv hKc hPc (ci := 11) (q0 := 0) rfl rfl, fun U hU hW => ⟨rfl, by rw [hU], by rw [hU]; exact hPc, va_K.moved hW.alike hKc, hDc.weaken (fun _ _ _ _ => trivial)⟩⟩ rfl rfl hl.1 rfl (lv_room (Nat.le_of_ble_eq_true rfl)) dL_law_238 ⟨Nat.le_of_ble_eq_true rfl, Nat.le_of_ble_eq_true rfl⟩) hS (fun q _ h => hFc q h) hFc (fun r_1603 u t H1 locs ht hvm hw hB hz1 hk1 hS => ?_)
  have hP1 : va_P (dC, dI) vwCl [] H1 := fun k q h => by simp at h
  have hD1 : va_D (va_A (wd_495 r k) H.size) [] := ⟨fun i j p q h => by simp at h, fun k q h => by simp at h⟩
  obtain ⟨hP, hD⟩ := va_join (wr := (wd_758 rm km)) (w1 := []) hP hD [0, 1, 2, 3, 4, 5, 6, 7, 8, 9, 10, 11, 12, 13] [14, 15, 16, 17, 18] rfl rfl (by decide) (by decide) hk1 hFc hP1 hD1
  generalize H1 = H at hP hS ⊢
  have hP : va_P (dC, dI) vwCl (wd_758 rm km) H := hP
  have hD : va_D A (wd_758 rm km) := hD
  obtain rfl : r_1603 = 20 := hw
  refine lv_aload_n hx hb dL_law_241 rfl (lv_at hl 1 rfl) ?_
  refine lv_aload_n hx hb dL_law_242 rfl (lv_at hl 3 rfl) ?_
  refine lv_iload_n hx hb dL_law_243 rfl (lv_at hl 0 rfl) ?_
  refine lv_iconst (v := 1) hx hb dL_law_244 (by decide) ?_
  refine lv_iadd hx hb dL_law_245 ?_
  refine lv_topi (fun x_1604 ex_1604 => ?_)
  obtain rfl : x_1604 = 1 := ex_1604.trans (by decide)
  refine va_sld hx hb hX hbl hbA hS (vpi (by decide)) dL_law_246 ?_
  refine lv_topi (fun x_1605 ex_1605 => ?_)
  obtain rfl : x_1605 = xs 1 := ex_1605
  refine lv_aload_n hx hb dL_law_247 rfl (lv_at hl 3 rfl) ?_
  refine lv_iload_n hx hb dL_law_248 rfl (lv_at hl 0 rfl) ?_
  refine lv_iconst (v := 2) hx hb dL_law_249 (by decide) ?_
  refine lv_iadd hx hb dL_law_250 ?_
  refine lv_topi (fun x_1606 ex_1606 => ?_)
  obtain rfl : x_1606 = 2 := ex_1606.trans (by decide)
  refine va_sld hx hb hX hbl hbA hS (vpi (by decide)) dL_law_251 ?_
  refine lv_topi (fun x_1607 ex_1607 => ?_)
  obtain rfl : x_1607 = xs 2 := ex_1607
  refine lv_aload_n hx hb dL_law_252 rfl (lv_at hl 3 rfl) ?_
  refine lv_iload_n hx hb dL_law_253 rfl (lv_at hl 0 rfl) ?_
  refine lv_iconst (v := 3) hx hb dL_law_254 (by decide) ?_
  refine lv_iadd hx hb dL_law_255 ?_
  refine lv_topi (fun x_1608 ex_1608 => ?_)
  obtain rfl : x_1608 = 3 := ex_1608.trans (by decide)
  refine va_sld hx hb hX hbl hbA hS (vpi (by decide)) dL_law_256 ?_
  refine lv_topi (fun x_1609 ex_1609 => ?_)
  obtain rfl : x_1609 = xs 3 := ex_1609
  refine lv_aload_n hx hb dL_law_257 rfl (lv_at hl 3 rfl) ?_
  refine lv_iload_n hx hb dL_law_258 rfl (lv_at hl 0 rfl) ?_
  refine lv_iconst (v := 4) hx hb dL_law_259 (by decide) ?_
  refine lv_iadd hx hb dL_law_260 ?_
  refine lv_topi (fun x_1610 ex_1610 => ?_)
  obtain rfl : x_1610 = 4 := ex_1610.trans (by decide)
  refine va_sld hx hb hX hbl hbA hS (vpi (by decide)) dL_law_261 ?_
  refine lv_topi (fun x_1611 ex_1611 => ?_)
  obtain rfl : x_1611 = xs 4 := ex_1611
  refine lv_aload_n hx hb dL_law_262 rfl (lv_at hl 3 rfl) ?_
  refine lv_iload_n hx hb dL_law_263 rfl (lv_at hl 0 rfl) ?_
  refine lv_iconst (v := 5) hx hb dL_law_264 (by decide) ?_
  refine lv_iadd hx hb dL_law_265 ?_
  refine lv_topi (fun x_1612 ex_1612 => ?_)
  obtain rfl : x_1612 = 5 := ex_1612.trans (by decide)
  refine va_sld hx hb hX hbl hbA hS (vpi (by decide)) dL_law_266 ?_
  refine lv_topi (fun x_1613 ex_1613 => ?_)
  obtain rfl : x_1613 = xs 5 := ex_1613
  have hPc := hP.sub (ws' := (wd_758 rm km)) [0, 1, 2, 3, 4] rfl
  have hDc := hD.sub (ws' := (wd_758 rm km)) [0, 1, 2, 3, 4] (by decide) rfl
  have hKc := hK.sub (tys' := [((km 0), .int), ((km 1), .int), ((km 2), .int), ((km 3), .int)]) [3, 4, 5, 6] rfl
  have hFc := va_free (wc := (wd_758 rm km)) hD hS hA [0, 1, 2, 3, 4] rfl
  refine va_calli (va_runV (As := [.int (xs 1), .int (xs 2), .int (xs 3), .int (xs 4), .int (xs 5)]) (rest := [.int 20]) ⟨hx, hb, hml, hown, hts⟩ (mX12_feed l dC dI rm km (xs 1) (xs 2) (xs 3) (xs 4) (xs 5) H.size) (cwV 5 hts (gV q_503 q_504 q_505 q_372 q_365) rfl rfl rfl mdv_yX12_feed ⟨Nat.le_of_ble_eq_true rfl, Nat.le_of_ble_eq_true rfl⟩) ⟨fun a U g mk q => by obtain ⟨q0, q1, qP, qK, qD⟩ := q; exact ⟨q0, q1, qP, va_K.moved (u := U) (U := U.calling g mk a) (Vm.Alike.refl U.vm) qK, qD⟩, va_recv hKc hPc (ci := 12) (q0 := 0) rfl rfl, fun U hU hW => ⟨rfl, by rw [hU], by rw [hU]; exact hPc, va_K.moved hW.alike hKc, hDc.weaken (fun _ _ _ _ => trivial)⟩⟩ rfl rfl hl.1 rfl (lv_room (Nat.le_of_ble_eq_true rfl)) dL_law_267 ⟨Nat.le_of_ble_eq_true rfl, Nat.le_of_ble_eq_true rfl⟩) hS (fun q _ h => hFc q h) hFc (fun r_1614 u t H1 locs ht hvm hw hB hz1 hk1 hS => ?_)
  have hP1 : va_P (dC, dI) vwCl [] H1 := fun k q h => by simp at h
  have hD1 : va_D (va_A (wd_758 rm km) H.size) [] := ⟨fun i j p q h => by simp at h, fun k q h => by simp at h⟩
  obtain ⟨hP, hD⟩ := va_join (wr := []) (w1 := []) hP hD [0, 1, 2, 3, 4] [] rfl rfl (by decide) (by decide) hk1 hFc hP1 hD1
  generalize H1 = H at hP hS ⊢
  have hP : va_P (dC, dI) vwCl [] H := hP
  have hD : va_D A [] := hD
  obtain rfl : r_1614 = 20 := hw
  refine lv_icmp_eq (tgt := 1165) hx hb dL_law_270 (by decide) (fun c_0 => ?_) (fun c_0 => absurd c_0 (by decide))
  exact law_tail C1 hS (lv_sub hl [0, 3] rfl)
set_option maxHeartbeats 4000000 in
set_option maxRecDepth 100000 in
theorem law_c1 {p : Program} {l : Launch} {e : Env} {s : State} {m : MethodId} {below : List Frame} {meth : Method} {c : Code} {b : Nat} {xs : Nat → Int32} {A : Nat → Prop} {H : Heap} {locs : List Loc} {ls : Array Slot} {dC : Nat → ClassId} {dI : Nat → Nat → Nat} {r : Nat → Nat} {k : Nat → ClassId} {rm : Nat → Nat} {km : Nat → ClassId} (C1 : lw_C p s m meth c b 6 xs A) (hP : va_P (dC, dI) vwCl (wd_897 r k rm km) H) (hD : va_D A (wd_897 r k rm km)) (hK : va_K (dC, dI) vwCl [((k 0), .int), ((k 1), .int), ((k 2), .int), ((km 0), .int), ((km 1), .int), ((km 2), .int), ((km 3), .int)] s) (hS : va_S A s.heap H locs) (hl : lv_has ls 4 [(3, .int 0), (2, .ref (rm 0)), (1, .ref (r 0)), (0, .ref b)]) : W p l e room_1 s m #[Value.ref b] below meth c H locs 179 95325 (lw_Z below #[Value.ref b] s) (F0 m 275 ls []) := by
  obtain ⟨hx, hb, hr, hml, hown, hts, hlocks, hX, hbl, hA, hAl, hbA⟩ := id C1
  refine lv_aload_n hx hb dL_law_275 rfl (lv_at hl 2 rfl) ?_
  refine lv_aload_n hx hb dL_law_276 rfl (lv_at hl 3 rfl) ?_
  refine lv_iload_n hx hb dL_law_277 rfl (lv_at hl 0 rfl) ?_
  refine lv_iconst (v := 1) hx hb dL_law_278 (by decide) ?_
  refine lv_iadd hx hb dL_law_279 ?_
  refine lv_topi (fun x_1615 ex_1615 => ?_)
  obtain rfl : x_1615 = 1 := ex_1615.trans (by decide)
  refine va_sld hx hb hX hbl hbA hS (vpi (by decide)) dL_law_280 ?_
  refine lv_topi (fun x_1616 ex_1616 => ?_)
  obtain rfl : x_1616 = xs 1 := ex_1616
  have hPc := hP.sub (ws' := (wd_495 r k)) [0, 1, 2, 3, 4, 5, 6, 7, 8, 9, 10, 11, 12, 13] rfl
  have hDc := hD.sub (ws' := (wd_495 r k)) [0, 1, 2, 3, 4, 5, 6, 7, 8, 9, 10, 11, 12, 13] (by decide) rfl
  have hKc := hK.sub (tys' := [((k 0), .int), ((k 1), .int), ((k 2), .int)]) [0, 1, 2] rfl
  have hFc := va_free (wc := (wd_495 r k)) hD hS hA [0, 1, 2, 3, 4, 5, 6, 7, 8, 9, 10, 11, 12, 13] rfl
  refine va_calli (va_runV (As := [.int (xs 1)]) (rest := []) ⟨hx, hb, hml, hown, hts⟩ (mX11_end l dC dI r k (xs 1) H.size) (cwV 1 hts (gV q_506 q_507 q_508 q_257 q_252) rfl rfl rfl mdv_yX11_end ⟨Nat.le_of_ble_eq_true rfl, Nat.le_of_ble_eq_true rfl⟩) ⟨fun a U g mk q => by obtain ⟨q0, q1, qP, qK, qD⟩ := q; exact ⟨q0, q1, qP, va_K.moved (u := U) (U := U.calling g mk a) (Vm.Alike.refl U.vm) qK, qD⟩, va_recv hKc hPc (ci := 11) (q0 := 0) rfl rfl, fun U hU hW => ⟨rfl, by rw [hU], by rw [hU]; exact hPc, va_K.moved hW.alike hKc, hDc.weaken (fun _ _ _ _ => trivial)⟩⟩ rfl rfl hl.1 rfl (lv_room (Nat.le_of_ble_eq_true rfl)) dL_law_281 ⟨Nat.le_of_ble_eq_true rfl, Nat.le_of_ble_eq_true rfl⟩) hS (fun q _ h => hFc q h) hFc (fun r_1617 u t H1 locs ht hvm hw hB hz1 hk1 hS => ?_)
  have hP1 : va_P (dC, dI) vwCl [] H1 := fun k q h => by simp at h
  have hD1 : va_D (va_A (wd_495 r k) H.size) [] := ⟨fun i j p q h => by simp at h, fun k q h => by simp at h⟩
  obtain ⟨hP, hD⟩ := va_join (wr := (wd_758 rm km)) (w1 := []) hP hD [0, 1, 2, 3, 4, 5, 6, 7, 8, 9, 10, 11, 12, 13] [14, 15, 16, 17, 18] rfl rfl (by decide) (by decide) hk1 hFc hP1 hD1
  generalize H1 = H at hP hS ⊢
  have hP : va_P (dC, dI) vwCl (wd_758 rm km) H := hP
  have hD : va_D A (wd_758 rm km) := hD
  obtain rfl : r_1617 = (sp_e (xs 1)) := hw
  refine lv_aload_n hx hb dL_law_284 rfl (lv_at hl 1 rfl) ?_
  refine lv_aload_n hx hb dL_law_285 rfl (lv_at hl 3 rfl) ?_
  refine lv_iload_n hx hb dL_law_286 rfl (lv_at hl 0 rfl) ?_
  refine lv_iconst (v := 1) hx hb dL_law_287 (by decide) ?_
  refine lv_iadd hx hb dL_law_288 ?_
  refine lv_topi (fun x_1618 ex_1618 => ?_)
  obtain rfl : x_1618 = 1 := ex_1618.trans (by decide)
  refine va_sld hx hb hX hbl hbA hS (vpi (by decide)) dL_law_289 ?_
  refine lv_topi (fun x_1619 ex_1619 => ?_)
  obtain rfl : x_1619 = xs 1 := ex_1619
  have hPc := hP.sub (ws' := (wd_758 rm km)) [0, 1, 2, 3, 4] rfl
  have hDc := hD.sub (ws' := (wd_758 rm km)) [0, 1, 2, 3, 4] (by decide) rfl
  have hKc := hK.sub (tys' := [((km 0), .int), ((km 1), .int), ((km 2), .int), ((km 3), .int)]) [3, 4, 5, 6] rfl
  have hFc := va_free (wc := (wd_758 rm km)) hD hS hA [0, 1, 2, 3, 4] rfl
  refine va_calli (va_runV (As := [.int (xs 1)]) (rest := [.int (sp_e (xs 1))]) ⟨hx, hb, hml, hown, hts⟩ (mX12_end l dC dI rm km (xs 1) H.size) (cwV 1 hts (gV q_509 q_510 q_511 q_372 q_367) rfl rfl rfl mdv_yX12_end ⟨Nat.le_of_ble_eq_true rfl, Nat.le_of_ble_eq_true rfl⟩) ⟨fun a U g mk q => by obtain ⟨q0, q1, qP, qK, qD⟩ := q; exact ⟨q0, q1, qP, va_K.moved (u := U) (U := U.calling g mk a) (Vm.Alike.refl U.vm) qK, qD⟩, va_recv hKc hPc (ci := 12) (q0 := 0) rfl rfl, fun U hU hW => ⟨rfl, by rw [hU], by rw [hU]; exact hPc, va_K.moved hW.alike hKc, hDc.weaken (fun _ _ _ _ => trivial)⟩⟩ rfl rfl hl.1 rfl (lv_room (Nat.le_of_ble_eq_true rfl)) dL_law_290 ⟨Nat.le_of_ble_eq_true rfl, Nat.le_of_ble_eq_true rfl⟩) hS (fun q _ h => hFc q h) hFc (fun r_1620 u t H1 locs ht hvm hw hB hz1 hk1 hS => ?_)
  have hP1 : va_P (dC, dI) vwCl [] H1 := fun k q h => by simp at h
  have hD1 : va_D (va_A (wd_758 rm km) H.size) [] := ⟨fun i j p q h => by simp at h, fun k q h => by simp at h⟩
  obtain ⟨hP, hD⟩ := va_join (wr := []) (w1 := []) hP hD [0, 1, 2, 3, 4] [] rfl rfl (by decide) (by decide) hk1 hFc hP1 hD1
  generalize H1 = H at hP hS ⊢
  have hP : va_P (dC, dI) vwCl [] H := hP
  have hD : va_D A [] := hD
  obtain rfl : r_1620 = (sp_e (xs 1)) := hw
  refine lv_icmp_eq (tgt := 1165) hx hb dL_law_293 (by decide) (fun c_0 => ?_) (fun c_0 => absurd rfl c_0)
  exact law_tail C1 hS (lv_sub hl [0, 3] rfl)
set_option maxHeartbeats 4000000 in
set_option maxRecDepth 100000 in
theorem law_c2 {p : Program} {l : Launch} {e : Env} {s : State} {m : MethodId} {below : List Frame} {meth : Method} {c : Code} {b : Nat} {xs : Nat → Int32} {A : Nat → Prop} {H : Heap} {locs : List Loc} {ls : Array Slot} {dC : Nat → ClassId} {dI : Nat → Nat → Nat} {r : Nat → Nat} {k : Nat → ClassId} {rm : Nat → Nat} {km : Nat → ClassId} (C1 : lw_C p s m meth c b 6 xs A) (hP : va_P (dC, dI) vwCl (wd_897 r k rm km) H) (hD : va_D A (wd_897 r k rm km)) (hK : va_K (dC, dI) vwCl [((k 0), .int), ((k 1), .int), ((k 2), .int), ((km 0), .int), ((km 1), .int), ((km 2), .int), ((km 3), .int)] s) (hS : va_S A s.heap H locs) (hl : lv_has ls 4 [(3, .int 0), (2, .ref (rm 0)), (1, .ref (r 0)), (0, .ref b)]) : W p l e room_1 s m #[Value.ref b] below meth c H locs 179 95325 (lw_Z below #[Value.ref b] s) (F0 m 298 ls []) := by
  obtain ⟨hx, hb, hr, hml, hown, hts, hlocks, hX, hbl, hA, hAl, hbA⟩ := id C1
  refine lv_aload_n hx hb dL_law_298 rfl (lv_at hl 2 rfl) ?_
  have hPc := hP.sub (ws' := (wd_495 r k)) [0, 1, 2, 3, 4, 5, 6, 7, 8, 9, 10, 11, 12, 13] rfl
  have hDc := hD.sub (ws' := (wd_495 r k)) [0, 1, 2, 3, 4, 5, 6, 7, 8, 9, 10, 11, 12, 13] (by decide) rfl
  have hKc := hK.sub (tys' := [((k 0), .int), ((k 1), .int), ((k 2), .int)]) [0, 1, 2] rfl
  have hFc := va_free (wc := (wd_495 r k)) hD hS hA [0, 1, 2, 3, 4, 5, 6, 7, 8, 9, 10, 11, 12, 13] rfl
  refine va_calli (va_runV (As := []) (rest := []) ⟨hx, hb, hml, hown, hts⟩ (mX11_heap l dC dI r k H.size) (cwV 0 hts (gV q_512 q_513 q_514 q_257 q_258) rfl rfl rfl mdv_yX11_heap ⟨Nat.le_of_ble_eq_true rfl, Nat.le_of_ble_eq_true rfl⟩) ⟨fun a U g mk q => by obtain ⟨q0, q1, qP, qK, qD⟩ := q; exact ⟨q0, q1, qP, va_K.moved (u := U) (U := U.calling g mk a) (Vm.Alike.refl U.vm) qK, qD⟩, va_recv hKc hPc (ci := 11) (q0 := 0) rfl rfl, fun U hU hW => ⟨rfl, by rw [hU], by rw [hU]; exact hPc, va_K.moved hW.alike hKc, hDc.weaken (fun _ _ _ _ => trivial)⟩⟩ rfl rfl hl.1 rfl (lv_room (Nat.le_of_ble_eq_true rfl)) dL_law_299 ⟨Nat.le_of_ble_eq_true rfl, Nat.le_of_ble_eq_true rfl⟩) hS (fun q _ h => hFc q h) hFc (fun r_1621 u t H1 locs ht hvm hw hB hz1 hk1 hS => ?_)
  have hP1 : va_P (dC, dI) vwCl [] H1 := fun k q h => by simp at h
  have hD1 : va_D (va_A (wd_495 r k) H.size) [] := ⟨fun i j p q h => by simp at h, fun k q h => by simp at h⟩
  obtain ⟨hP, hD⟩ := va_join (wr := (wd_758 rm km)) (w1 := []) hP hD [0, 1, 2, 3, 4, 5, 6, 7, 8, 9, 10, 11, 12, 13] [14, 15, 16, 17, 18] rfl rfl (by decide) (by decide) hk1 hFc hP1 hD1
  generalize H1 = H at hP hS ⊢
  have hP : va_P (dC, dI) vwCl (wd_758 rm km) H := hP
  have hD : va_D A (wd_758 rm km) := hD
  obtain rfl : r_1621 = (-1) := hw
  refine lv_aload_n hx hb dL_law_302 rfl (lv_at hl 1 rfl) ?_
  have hPc := hP.sub (ws' := (wd_758 rm km)) [0, 1, 2, 3, 4] rfl
  have hDc := hD.sub (ws' := (wd_758 rm km)) [0, 1, 2, 3, 4] (by decide) rfl
  have hKc := hK.sub (tys' := [((km 0), .int), ((km 1), .int), ((km 2), .int), ((km 3), .int)]) [3, 4, 5, 6] rfl
  have hFc := va_free (wc := (wd_758 rm km)) hD hS hA [0, 1, 2, 3, 4] rfl
  refine va_calli (va_runV (As := []) (rest := [.int (-1)]) ⟨hx, hb, hml, hown, hts⟩ (mX12_heap l dC dI rm km H.size) (cwV 0 hts (gV q_515 q_516 q_517 q_372 q_373) rfl rfl rfl mdv_yX12_heap ⟨Nat.le_of_ble_eq_true rfl, Nat.le_of_ble_eq_true rfl⟩) ⟨fun a U g mk q => by obtain ⟨q0, q1, qP, qK, qD⟩ := q; exact ⟨q0, q1, qP, va_K.moved (u := U) (U := U.calling g mk a) (Vm.Alike.refl U.vm) qK, qD⟩, va_recv hKc hPc (ci := 12) (q0 := 0) rfl rfl, fun U hU hW => ⟨rfl, by rw [hU], by rw [hU]; exact hPc, va_K.moved hW.alike hKc, hDc.weaken (fun _ _ _ _ => trivial)⟩⟩ rfl rfl hl.1 rfl (lv_room (Nat.le_of_ble_eq_true rfl)) dL_law_303 ⟨Nat.le_of_ble_eq_true rfl, Nat.le_of_ble_eq_true rfl⟩) hS (fun q _ h => hFc q h) hFc (fun r_1622 u t H1 locs ht hvm hw hB hz1 hk1 hS => ?_)
  have hP1 : va_P (dC, dI) vwCl [] H1 := fun k q h => by simp at h
  have hD1 : va_D (va_A (wd_758 rm km) H.size) [] := ⟨fun i j p q h => by simp at h, fun k q h => by simp at h⟩
  obtain ⟨hP, hD⟩ := va_join (wr := []) (w1 := []) hP hD [0, 1, 2, 3, 4] [] rfl rfl (by decide) (by decide) hk1 hFc hP1 hD1
  generalize H1 = H at hP hS ⊢
  have hP : va_P (dC, dI) vwCl [] H := hP
  have hD : va_D A [] := hD
  obtain rfl : r_1622 = (-1) := hw
  refine lv_icmp_eq (tgt := 1165) hx hb dL_law_306 (by decide) (fun c_0 => ?_) (fun c_0 => absurd c_0 (by decide))
  exact law_tail C1 hS (lv_sub hl [0, 3] rfl)
set_option maxHeartbeats 4000000 in
set_option maxRecDepth 100000 in
theorem law_c3 {p : Program} {l : Launch} {e : Env} {s : State} {m : MethodId} {below : List Frame} {meth : Method} {c : Code} {b : Nat} {xs : Nat → Int32} {A : Nat → Prop} {H : Heap} {locs : List Loc} {ls : Array Slot} {dC : Nat → ClassId} {dI : Nat → Nat → Nat} {r : Nat → Nat} {k : Nat → ClassId} {rm : Nat → Nat} {km : Nat → ClassId} (C1 : lw_C p s m meth c b 6 xs A) (hP : va_P (dC, dI) vwCl (wd_897 r k rm km) H) (hD : va_D A (wd_897 r k rm km)) (hK : va_K (dC, dI) vwCl [((k 0), .int), ((k 1), .int), ((k 2), .int), ((km 0), .int), ((km 1), .int), ((km 2), .int), ((km 3), .int)] s) (hS : va_S A s.heap H locs) (hl : lv_has ls 4 [(3, .int 0), (2, .ref (rm 0)), (1, .ref (r 0)), (0, .ref b)]) : W p l e room_1 s m #[Value.ref b] below meth c H locs 179 95325 (lw_Z below #[Value.ref b] s) (F0 m 311 ls []) := by
  obtain ⟨hx, hb, hr, hml, hown, hts, hlocks, hX, hbl, hA, hAl, hbA⟩ := id C1
  refine lv_aload_n hx hb dL_law_311 rfl (lv_at hl 2 rfl) ?_
  refine lv_aload_n hx hb dL_law_312 rfl (lv_at hl 3 rfl) ?_
  refine lv_iload_n hx hb dL_law_313 rfl (lv_at hl 0 rfl) ?_
  refine lv_iconst (v := 1) hx hb dL_law_314 (by decide) ?_
  refine lv_iadd hx hb dL_law_315 ?_
  refine lv_topi (fun x_1623 ex_1623 => ?_)
  obtain rfl : x_1623 = 1 := ex_1623.trans (by decide)
  refine va_sld hx hb hX hbl hbA hS (vpi (by decide)) dL_law_316 ?_
  refine lv_topi (fun x_1624 ex_1624 => ?_)
  obtain rfl : x_1624 = xs 1 := ex_1624
  have hPc := hP.sub (ws' := (wd_495 r k)) [0, 1, 2, 3, 4, 5, 6, 7, 8, 9, 10, 11, 12, 13] rfl
  have hDc := hD.sub (ws' := (wd_495 r k)) [0, 1, 2, 3, 4, 5, 6, 7, 8, 9, 10, 11, 12, 13] (by decide) rfl
  have hKc := hK.sub (tys' := [((k 0), .int), ((k 1), .int), ((k 2), .int)]) [0, 1, 2] rfl
  have hFc := va_free (wc := (wd_495 r k)) hD hS hA [0, 1, 2, 3, 4, 5, 6, 7, 8, 9, 10, 11, 12, 13] rfl
  refine va_calli (va_runV (As := [.int (xs 1)]) (rest := []) ⟨hx, hb, hml, hown, hts⟩ (mX11_fault l dC dI r k (xs 1) H.size) (cwV 1 hts (gV q_518 q_519 q_520 q_257 q_289) rfl rfl rfl mdv_yX11_fault ⟨Nat.le_of_ble_eq_true rfl, Nat.le_of_ble_eq_true rfl⟩) ⟨fun a U g mk q => by obtain ⟨q0, q1, qP, qK, qD⟩ := q; exact ⟨q0, q1, qP, va_K.moved (u := U) (U := U.calling g mk a) (Vm.Alike.refl U.vm) qK, qD⟩, va_recv hKc hPc (ci := 11) (q0 := 0) rfl rfl, fun U hU hW => ⟨rfl, by rw [hU], by rw [hU]; exact hPc, va_K.moved hW.alike hKc, hDc.weaken (fun _ _ _ _ => trivial)⟩⟩ rfl rfl hl.1 rfl (lv_room (Nat.le_of_ble_eq_true rfl)) dL_law_317 ⟨Nat.le_of_ble_eq_true rfl, Nat.le_of_ble_eq_true rfl⟩) hS (fun q _ h => hFc q h) hFc (fun r_1625 u t H1 locs ht hvm hw hB hz1 hk1 hS => ?_)
  have hP1 : va_P (dC, dI) vwCl [] H1 := fun k q h => by simp at h
  have hD1 : va_D (va_A (wd_495 r k) H.size) [] := ⟨fun i j p q h => by simp at h, fun k q h => by simp at h⟩
  obtain ⟨hP, hD⟩ := va_join (wr := (wd_758 rm km)) (w1 := []) hP hD [0, 1, 2, 3, 4, 5, 6, 7, 8, 9, 10, 11, 12, 13] [14, 15, 16, 17, 18] rfl rfl (by decide) (by decide) hk1 hFc hP1 hD1
  generalize H1 = H at hP hS ⊢
  have hP : va_P (dC, dI) vwCl (wd_758 rm km) H := hP
  have hD : va_D A (wd_758 rm km) := hD
  obtain rfl : r_1625 = (sp_1 (xs 1)) := hw
  refine lv_aload_n hx hb dL_law_320 rfl (lv_at hl 1 rfl) ?_
  refine lv_aload_n hx hb dL_law_321 rfl (lv_at hl 3 rfl) ?_
  refine lv_iload_n hx hb dL_law_322 rfl (lv_at hl 0 rfl) ?_
  refine lv_iconst (v := 1) hx hb dL_law_323 (by decide) ?_
  refine lv_iadd hx hb dL_law_324 ?_
  refine lv_topi (fun x_1626 ex_1626 => ?_)
  obtain rfl : x_1626 = 1 := ex_1626.trans (by decide)
  refine va_sld hx hb hX hbl hbA hS (vpi (by decide)) dL_law_325 ?_
  refine lv_topi (fun x_1627 ex_1627 => ?_)
  obtain rfl : x_1627 = xs 1 := ex_1627
  have hPc := hP.sub (ws' := (wd_758 rm km)) [0, 1, 2, 3, 4] rfl
  have hDc := hD.sub (ws' := (wd_758 rm km)) [0, 1, 2, 3, 4] (by decide) rfl
  have hKc := hK.sub (tys' := [((km 0), .int), ((km 1), .int), ((km 2), .int), ((km 3), .int)]) [3, 4, 5, 6] rfl
  have hFc := va_free (wc := (wd_758 rm km)) hD hS hA [0, 1, 2, 3, 4] rfl
  refine va_calli (va_runV (As := [.int (xs 1)]) (rest := [.int (sp_1 (xs 1))]) ⟨hx, hb, hml, hown, hts⟩ (mX12_fault l dC dI rm km (xs 1) H.size) (cwV 1 hts (gV q_521 q_522 q_523 q_372 q_429) rfl rfl rfl mdv_yX12_fault ⟨Nat.le_of_ble_eq_true rfl, Nat.le_of_ble_eq_true rfl⟩) ⟨fun a U g mk q => by obtain ⟨q0, q1, qP, qK, qD⟩ := q; exact ⟨q0, q1, qP, va_K.moved (u := U) (U := U.calling g mk a) (Vm.Alike.refl U.vm) qK, qD⟩, va_recv hKc hPc (ci := 12) (q0 := 0) rfl rfl, fun U hU hW => ⟨rfl, by rw [hU], by rw [hU]; exact hPc, va_K.moved hW.alike hKc, hDc.weaken (fun _ _ _ _ => trivial)⟩⟩ rfl rfl hl.1 rfl (lv_room (Nat.le_of_ble_eq_true rfl)) dL_law_326 ⟨Nat.le_of_ble_eq_true rfl, Nat.le_of_ble_eq_true rfl⟩) hS (fun q _ h => hFc q h) hFc (fun r_1628 u t H1 locs ht hvm hw hB hz1 hk1 hS => ?_)
  have hP1 : va_P (dC, dI) vwCl [] H1 := fun k q h => by simp at h
  have hD1 : va_D (va_A (wd_758 rm km) H.size) [] := ⟨fun i j p q h => by simp at h, fun k q h => by simp at h⟩
  obtain ⟨hP, hD⟩ := va_join (wr := []) (w1 := []) hP hD [0, 1, 2, 3, 4] [] rfl rfl (by decide) (by decide) hk1 hFc hP1 hD1
  generalize H1 = H at hP hS ⊢
  have hP : va_P (dC, dI) vwCl [] H := hP
  have hD : va_D A [] := hD
  obtain rfl : r_1628 = (sp_1 (xs 1)) := hw
  refine lv_icmp_eq (tgt := 1165) hx hb dL_law_329 (by decide) (fun c_0 => ?_) (fun c_0 => absurd rfl c_0)
  exact law_tail C1 hS (lv_sub hl [0, 3] rfl)
set_option maxHeartbeats 4000000 in
set_option maxRecDepth 100000 in
theorem law_c4 {p : Program} {l : Launch} {e : Env} {s : State} {m : MethodId} {below : List Frame} {meth : Method} {c : Code} {b : Nat} {xs : Nat → Int32} {A : Nat → Prop} {H : Heap} {locs : List Loc} {ls : Array Slot} {dC : Nat → ClassId} {dI : Nat → Nat → Nat} {r : Nat → Nat} {k : Nat → ClassId} {rm : Nat → Nat} {km : Nat → ClassId} (C1 : lw_C p s m meth c b 6 xs A) (hP : va_P (dC, dI) vwCl (wd_897 r k rm km) H) (hD : va_D A (wd_897 r k rm km)) (hK : va_K (dC, dI) vwCl [((k 0), .int), ((k 1), .int), ((k 2), .int), ((km 0), .int), ((km 1), .int), ((km 2), .int), ((km 3), .int)] s) (hS : va_S A s.heap H locs) (hl : lv_has ls 4 [(3, .int 0), (2, .ref (rm 0)), (1, .ref (r 0)), (0, .ref b)]) : W p l e room_1 s m #[Value.ref b] below meth c H locs 179 95325 (lw_Z below #[Value.ref b] s) (F0 m 334 ls []) := by
  obtain ⟨hx, hb, hr, hml, hown, hts, hlocks, hX, hbl, hA, hAl, hbA⟩ := id C1
  refine lv_aload_n hx hb dL_law_334 rfl (lv_at hl 2 rfl) ?_
  refine lv_aload_n hx hb dL_law_335 rfl (lv_at hl 3 rfl) ?_
  refine lv_iload_n hx hb dL_law_336 rfl (lv_at hl 0 rfl) ?_
  refine lv_iconst (v := 1) hx hb dL_law_337 (by decide) ?_
  refine lv_iadd hx hb dL_law_338 ?_
  refine lv_topi (fun x_1629 ex_1629 => ?_)
  obtain rfl : x_1629 = 1 := ex_1629.trans (by decide)
  refine va_sld hx hb hX hbl hbA hS (vpi (by decide)) dL_law_339 ?_
  refine lv_topi (fun x_1630 ex_1630 => ?_)
  obtain rfl : x_1630 = xs 1 := ex_1630
  have hPc := hP.sub (ws' := (wd_495 r k)) [0, 1, 2, 3, 4, 5, 6, 7, 8, 9, 10, 11, 12, 13] rfl
  have hDc := hD.sub (ws' := (wd_495 r k)) [0, 1, 2, 3, 4, 5, 6, 7, 8, 9, 10, 11, 12, 13] (by decide) rfl
  have hKc := hK.sub (tys' := [((k 0), .int), ((k 1), .int), ((k 2), .int)]) [0, 1, 2] rfl
  have hFc := va_free (wc := (wd_495 r k)) hD hS hA [0, 1, 2, 3, 4, 5, 6, 7, 8, 9, 10, 11, 12, 13] rfl
  refine va_calli (va_runV (As := [.int (xs 1)]) (rest := []) ⟨hx, hb, hml, hown, hts⟩ (mX11_has l dC dI r k (xs 1) H.size) (cwV 1 hts (gV q_524 q_525 q_526 q_257 q_292) rfl rfl rfl mdv_yX11_has ⟨Nat.le_of_ble_eq_true rfl, Nat.le_of_ble_eq_true rfl⟩) ⟨fun a U g mk q => by obtain ⟨q0, q1, qP, qK, qD⟩ := q; exact ⟨q0, q1, qP, va_K.moved (u := U) (U := U.calling g mk a) (Vm.Alike.refl U.vm) qK, qD⟩, va_recv hKc hPc (ci := 11) (q0 := 0) rfl rfl, fun U hU hW => ⟨rfl, by rw [hU], by rw [hU]; exact hPc, va_K.moved hW.alike hKc, hDc.weaken (fun _ _ _ _ => trivial)⟩⟩ rfl rfl hl.1 rfl (lv_room (Nat.le_of_ble_eq_true rfl)) dL_law_340 ⟨Nat.le_of_ble_eq_true rfl, Nat.le_of_ble_eq_true rfl⟩) hS (fun q _ h => hFc q h) hFc (fun r_1631 u t H1 locs ht hvm hw hB hz1 hk1 hS => ?_)
  have hP1 : va_P (dC, dI) vwCl [] H1 := fun k q h => by simp at h
  have hD1 : va_D (va_A (wd_495 r k) H.size) [] := ⟨fun i j p q h => by simp at h, fun k q h => by simp at h⟩
  obtain ⟨hP, hD⟩ := va_join (wr := (wd_758 rm km)) (w1 := []) hP hD [0, 1, 2, 3, 4, 5, 6, 7, 8, 9, 10, 11, 12, 13] [14, 15, 16, 17, 18] rfl rfl (by decide) (by decide) hk1 hFc hP1 hD1
  generalize H1 = H at hP hS ⊢
  have hP : va_P (dC, dI) vwCl (wd_758 rm km) H := hP
  have hD : va_D A (wd_758 rm km) := hD
  obtain rfl : r_1631 = (sp_10 (xs 1)) := hw
  refine lv_aload_n hx hb dL_law_343 rfl (lv_at hl 1 rfl) ?_
  refine lv_aload_n hx hb dL_law_344 rfl (lv_at hl 3 rfl) ?_
  refine lv_iload_n hx hb dL_law_345 rfl (lv_at hl 0 rfl) ?_
  refine lv_iconst (v := 1) hx hb dL_law_346 (by decide) ?_
  refine lv_iadd hx hb dL_law_347 ?_
  refine lv_topi (fun x_1632 ex_1632 => ?_)
  obtain rfl : x_1632 = 1 := ex_1632.trans (by decide)
  refine va_sld hx hb hX hbl hbA hS (vpi (by decide)) dL_law_348 ?_
  refine lv_topi (fun x_1633 ex_1633 => ?_)
  obtain rfl : x_1633 = xs 1 := ex_1633
  have hPc := hP.sub (ws' := (wd_758 rm km)) [0, 1, 2, 3, 4] rfl
  have hDc := hD.sub (ws' := (wd_758 rm km)) [0, 1, 2, 3, 4] (by decide) rfl
  have hKc := hK.sub (tys' := [((km 0), .int), ((km 1), .int), ((km 2), .int), ((km 3), .int)]) [3, 4, 5, 6] rfl
  have hFc := va_free (wc := (wd_758 rm km)) hD hS hA [0, 1, 2, 3, 4] rfl
  refine va_calli (va_runV (As := [.int (xs 1)]) (rest := [.int (sp_10 (xs 1))]) ⟨hx, hb, hml, hown, hts⟩ (mX12_has l dC dI rm km (xs 1) H.size) (cwV 1 hts (gV q_527 q_528 q_529 q_372 q_430) rfl rfl rfl mdv_yX12_has ⟨Nat.le_of_ble_eq_true rfl, Nat.le_of_ble_eq_true rfl⟩) ⟨fun a U g mk q => by obtain ⟨q0, q1, qP, qK, qD⟩ := q; exact ⟨q0, q1, qP, va_K.moved (u := U) (U := U.calling g mk a) (Vm.Alike.refl U.vm) qK, qD⟩, va_recv hKc hPc (ci := 12) (q0 := 0) rfl rfl, fun U hU hW => ⟨rfl, by rw [hU], by rw [hU]; exact hPc, va_K.moved hW.alike hKc, hDc.weaken (fun _ _ _ _ => trivial)⟩⟩ rfl rfl hl.1 rfl (lv_room (Nat.le_of_ble_eq_true rfl)) dL_law_349 ⟨Nat.le_of_ble_eq_true rfl, Nat.le_of_ble_eq_true rfl⟩) hS (fun q _ h => hFc q h) hFc (fun r_1634 u t H1 locs ht hvm hw hB hz1 hk1 hS => ?_)
  have hP1 : va_P (dC, dI) vwCl [] H1 := fun k q h => by simp at h
  have hD1 : va_D (va_A (wd_758 rm km) H.size) [] := ⟨fun i j p q h => by simp at h, fun k q h => by simp at h⟩
  obtain ⟨hP, hD⟩ := va_join (wr := []) (w1 := []) hP hD [0, 1, 2, 3, 4] [] rfl rfl (by decide) (by decide) hk1 hFc hP1 hD1
  generalize H1 = H at hP hS ⊢
  have hP : va_P (dC, dI) vwCl [] H := hP
  have hD : va_D A [] := hD
  obtain rfl : r_1634 = (sp_10 (xs 1)) := hw
  refine lv_icmp_eq (tgt := 1165) hx hb dL_law_352 (by decide) (fun c_0 => ?_) (fun c_0 => absurd rfl c_0)
  exact law_tail C1 hS (lv_sub hl [0, 3] rfl)
set_option maxHeartbeats 4000000 in
set_option maxRecDepth 100000 in
theorem law_c5 {p : Program} {l : Launch} {e : Env} {s : State} {m : MethodId} {below : List Frame} {meth : Method} {c : Code} {b : Nat} {xs : Nat → Int32} {A : Nat → Prop} {H : Heap} {locs : List Loc} {ls : Array Slot} {dC : Nat → ClassId} {dI : Nat → Nat → Nat} {r : Nat → Nat} {k : Nat → ClassId} {rm : Nat → Nat} {km : Nat → ClassId} (C1 : lw_C p s m meth c b 6 xs A) (hP : va_P (dC, dI) vwCl (wd_897 r k rm km) H) (hD : va_D A (wd_897 r k rm km)) (hK : va_K (dC, dI) vwCl [((k 0), .int), ((k 1), .int), ((k 2), .int), ((km 0), .int), ((km 1), .int), ((km 2), .int), ((km 3), .int)] s) (hS : va_S A s.heap H locs) (hl : lv_has ls 4 [(3, .int 0), (2, .ref (rm 0)), (1, .ref (r 0)), (0, .ref b)]) : W p l e room_1 s m #[Value.ref b] below meth c H locs 179 95325 (lw_Z below #[Value.ref b] s) (F0 m 357 ls []) := by
  obtain ⟨hx, hb, hr, hml, hown, hts, hlocks, hX, hbl, hA, hAl, hbA⟩ := id C1
  refine lv_aload_n hx hb dL_law_357 rfl (lv_at hl 2 rfl) ?_
  refine lv_aload_n hx hb dL_law_358 rfl (lv_at hl 3 rfl) ?_
  refine lv_iload_n hx hb dL_law_359 rfl (lv_at hl 0 rfl) ?_
  refine lv_iconst (v := 1) hx hb dL_law_360 (by decide) ?_
  refine lv_iadd hx hb dL_law_361 ?_
  refine lv_topi (fun x_1635 ex_1635 => ?_)
  obtain rfl : x_1635 = 1 := ex_1635.trans (by decide)
  refine va_sld hx hb hX hbl hbA hS (vpi (by decide)) dL_law_362 ?_
  refine lv_topi (fun x_1636 ex_1636 => ?_)
  obtain rfl : x_1636 = xs 1 := ex_1636
  refine lv_aload_n hx hb dL_law_363 rfl (lv_at hl 3 rfl) ?_
  refine lv_iload_n hx hb dL_law_364 rfl (lv_at hl 0 rfl) ?_
  refine lv_iconst (v := 2) hx hb dL_law_365 (by decide) ?_
  refine lv_iadd hx hb dL_law_366 ?_
  refine lv_topi (fun x_1637 ex_1637 => ?_)
  obtain rfl : x_1637 = 2 := ex_1637.trans (by decide)
  refine va_sld hx hb hX hbl hbA hS (vpi (by decide)) dL_law_367 ?_
  refine lv_topi (fun x_1638 ex_1638 => ?_)
  obtain rfl : x_1638 = xs 2 := ex_1638
  have hPc := hP.sub (ws' := (wd_495 r k)) [0, 1, 2, 3, 4, 5, 6, 7, 8, 9, 10, 11, 12, 13] rfl
  have hDc := hD.sub (ws' := (wd_495 r k)) [0, 1, 2, 3, 4, 5, 6, 7, 8, 9, 10, 11, 12, 13] (by decide) rfl
  have hKc := hK.sub (tys' := [((k 0), .int), ((k 1), .int), ((k 2), .int)]) [0, 1, 2] rfl
  have hFc := va_free (wc := (wd_495 r k)) hD hS hA [0, 1, 2, 3, 4, 5, 6, 7, 8, 9, 10, 11, 12, 13] rfl
  refine va_calli (va_runV (As := [.int (xs 1), .int (xs 2)]) (rest := []) ⟨hx, hb, hml, hown, hts⟩ (mX11_word l dC dI r k (xs 1) (xs 2) H.size) (cwV 2 hts (gV q_530 q_531 q_532 q_257 q_307) rfl rfl rfl mdv_yX11_word ⟨Nat.le_of_ble_eq_true rfl, Nat.le_of_ble_eq_true rfl⟩) ⟨fun a U g mk q => by obtain ⟨q0, q1, qP, qK, qD⟩ := q; exact ⟨q0, q1, qP, va_K.moved (u := U) (U := U.calling g mk a) (Vm.Alike.refl U.vm) qK, qD⟩, va_recv hKc hPc (ci := 11) (q0 := 0) rfl rfl, fun U hU hW => ⟨rfl, by rw [hU], by rw [hU]; exact hPc, va_K.moved hW.alike hKc, hDc.weaken (fun _ _ _ _ => trivial)⟩⟩ rfl rfl hl.1 rfl (lv_room (Nat.le_of_ble_eq_true rfl)) dL_law_368 ⟨Nat.le_of_ble_eq_true rfl, Nat.le_of_ble_eq_true rfl⟩) hS (fun q _ h => hFc q h) hFc (fun r_1639 u t H1 locs ht hvm hw hB hz1 hk1 hS => ?_)
  have hP1 : va_P (dC, dI) vwCl [] H1 := fun k q h => by simp at h
  have hD1 : va_D (va_A (wd_495 r k) H.size) [] := ⟨fun i j p q h => by simp at h, fun k q h => by simp at h⟩
  obtain ⟨hP, hD⟩ := va_join (wr := (wd_758 rm km)) (w1 := []) hP hD [0, 1, 2, 3, 4, 5, 6, 7, 8, 9, 10, 11, 12, 13] [14, 15, 16, 17, 18] rfl rfl (by decide) (by decide) hk1 hFc hP1 hD1
  generalize H1 = H at hP hS ⊢
  have hP : va_P (dC, dI) vwCl (wd_758 rm km) H := hP
  have hD : va_D A (wd_758 rm km) := hD
  obtain rfl : r_1639 = (-1000000) := hw
  refine lv_aload_n hx hb dL_law_371 rfl (lv_at hl 1 rfl) ?_
  refine lv_aload_n hx hb dL_law_372 rfl (lv_at hl 3 rfl) ?_
  refine lv_iload_n hx hb dL_law_373 rfl (lv_at hl 0 rfl) ?_
  refine lv_iconst (v := 1) hx hb dL_law_374 (by decide) ?_
  refine lv_iadd hx hb dL_law_375 ?_
  refine lv_topi (fun x_1640 ex_1640 => ?_)
  obtain rfl : x_1640 = 1 := ex_1640.trans (by decide)
  refine va_sld hx hb hX hbl hbA hS (vpi (by decide)) dL_law_376 ?_
  refine lv_topi (fun x_1641 ex_1641 => ?_)
  obtain rfl : x_1641 = xs 1 := ex_1641
  refine lv_aload_n hx hb dL_law_377 rfl (lv_at hl 3 rfl) ?_
  refine lv_iload_n hx hb dL_law_378 rfl (lv_at hl 0 rfl) ?_
  refine lv_iconst (v := 2) hx hb dL_law_379 (by decide) ?_
  refine lv_iadd hx hb dL_law_380 ?_
  refine lv_topi (fun x_1642 ex_1642 => ?_)
  obtain rfl : x_1642 = 2 := ex_1642.trans (by decide)
  refine va_sld hx hb hX hbl hbA hS (vpi (by decide)) dL_law_381 ?_
  refine lv_topi (fun x_1643 ex_1643 => ?_)
  obtain rfl : x_1643 = xs 2 := ex_1643
  have hPc := hP.sub (ws' := (wd_758 rm km)) [0, 1, 2, 3, 4] rfl
  have hDc := hD.sub (ws' := (wd_758 rm km)) [0, 1, 2, 3, 4] (by decide) rfl
  have hKc := hK.sub (tys' := [((km 0), .int), ((km 1), .int), ((km 2), .int), ((km 3), .int)]) [3, 4, 5, 6] rfl
  have hFc := va_free (wc := (wd_758 rm km)) hD hS hA [0, 1, 2, 3, 4] rfl
  refine va_calli (va_runV (As := [.int (xs 1), .int (xs 2)]) (rest := [.int (-1000000)]) ⟨hx, hb, hml, hown, hts⟩ (mX12_word l dC dI rm km (xs 1) (xs 2) H.size) (cwV 2 hts (gV q_533 q_534 q_535 q_372 q_441) rfl rfl rfl mdv_yX12_word ⟨Nat.le_of_ble_eq_true rfl, Nat.le_of_ble_eq_true rfl⟩) ⟨fun a U g mk q => by obtain ⟨q0, q1, qP, qK, qD⟩ := q; exact ⟨q0, q1, qP, va_K.moved (u := U) (U := U.calling g mk a) (Vm.Alike.refl U.vm) qK, qD⟩, va_recv hKc hPc (ci := 12) (q0 := 0) rfl rfl, fun U hU hW => ⟨rfl, by rw [hU], by rw [hU]; exact hPc, va_K.moved hW.alike hKc, hDc.weaken (fun _ _ _ _ => trivial)⟩⟩ rfl rfl hl.1 rfl (lv_room (Nat.le_of_ble_eq_true rfl)) dL_law_382 ⟨Nat.le_of_ble_eq_true rfl, Nat.le_of_ble_eq_true rfl⟩) hS (fun q _ h => hFc q h) hFc (fun r_1644 u t H1 locs ht hvm hw hB hz1 hk1 hS => ?_)
  have hP1 : va_P (dC, dI) vwCl [] H1 := fun k q h => by simp at h
  have hD1 : va_D (va_A (wd_758 rm km) H.size) [] := ⟨fun i j p q h => by simp at h, fun k q h => by simp at h⟩
  obtain ⟨hP, hD⟩ := va_join (wr := []) (w1 := []) hP hD [0, 1, 2, 3, 4] [] rfl rfl (by decide) (by decide) hk1 hFc hP1 hD1
  generalize H1 = H at hP hS ⊢
  have hP : va_P (dC, dI) vwCl [] H := hP
  have hD : va_D A [] := hD
  obtain rfl : r_1644 = (-1000000) := hw
  refine lv_icmp_eq (tgt := 1165) hx hb dL_law_385 (by decide) (fun c_0 => ?_) (fun c_0 => absurd c_0 (by decide))
  exact law_tail C1 hS (lv_sub hl [0, 3] rfl)
set_option maxHeartbeats 4000000 in
set_option maxRecDepth 100000 in
theorem law_c6 {p : Program} {l : Launch} {e : Env} {s : State} {m : MethodId} {below : List Frame} {meth : Method} {c : Code} {b : Nat} {xs : Nat → Int32} {A : Nat → Prop} {H : Heap} {locs : List Loc} {ls : Array Slot} {dC : Nat → ClassId} {dI : Nat → Nat → Nat} {r : Nat → Nat} {k : Nat → ClassId} {rm : Nat → Nat} {km : Nat → ClassId} (C1 : lw_C p s m meth c b 6 xs A) (hP : va_P (dC, dI) vwCl (wd_897 r k rm km) H) (hD : va_D A (wd_897 r k rm km)) (hK : va_K (dC, dI) vwCl [((k 0), .int), ((k 1), .int), ((k 2), .int), ((km 0), .int), ((km 1), .int), ((km 2), .int), ((km 3), .int)] s) (hS : va_S A s.heap H locs) (hl : lv_has ls 4 [(3, .int 0), (2, .ref (rm 0)), (1, .ref (r 0)), (0, .ref b)]) : W p l e room_1 s m #[Value.ref b] below meth c H locs 179 95325 (lw_Z below #[Value.ref b] s) (F0 m 390 ls []) := by
  obtain ⟨hx, hb, hr, hml, hown, hts, hlocks, hX, hbl, hA, hAl, hbA⟩ := id C1
  refine lv_aload_n hx hb dL_law_390 rfl (lv_at hl 2 rfl) ?_
  refine lv_aload_n hx hb dL_law_391 rfl (lv_at hl 3 rfl) ?_
  refine lv_iload_n hx hb dL_law_392 rfl (lv_at hl 0 rfl) ?_
  refine lv_iconst (v := 1) hx hb dL_law_393 (by decide) ?_
  refine lv_iadd hx hb dL_law_394 ?_
  refine lv_topi (fun x_1645 ex_1645 => ?_)
  obtain rfl : x_1645 = 1 := ex_1645.trans (by decide)
  refine va_sld hx hb hX hbl hbA hS (vpi (by decide)) dL_law_395 ?_
  refine lv_topi (fun x_1646 ex_1646 => ?_)
  obtain rfl : x_1646 = xs 1 := ex_1646
  have hPc := hP.sub (ws' := (wd_495 r k)) [0, 1, 2, 3, 4, 5, 6, 7, 8, 9, 10, 11, 12, 13] rfl
  have hDc := hD.sub (ws' := (wd_495 r k)) [0, 1, 2, 3, 4, 5, 6, 7, 8, 9, 10, 11, 12, 13] (by decide) rfl
  have hKc := hK.sub (tys' := [((k 0), .int), ((k 1), .int), ((k 2), .int)]) [0, 1, 2] rfl
  have hFc := va_free (wc := (wd_495 r k)) hD hS hA [0, 1, 2, 3, 4, 5, 6, 7, 8, 9, 10, 11, 12, 13] rfl
  refine va_calli (va_runV (As := [.int (xs 1)]) (rest := []) ⟨hx, hb, hml, hown, hts⟩ (mX11_stage l dC dI r k (xs 1) H.size) (cwV 1 hts (gV q_536 q_537 q_538 q_257 q_309) rfl rfl rfl mdv_yX11_stage ⟨Nat.le_of_ble_eq_true rfl, Nat.le_of_ble_eq_true rfl⟩) ⟨fun a U g mk q => by obtain ⟨q0, q1, qP, qK, qD⟩ := q; exact ⟨q0, q1, qP, va_K.moved (u := U) (U := U.calling g mk a) (Vm.Alike.refl U.vm) qK, qD⟩, va_recv hKc hPc (ci := 11) (q0 := 0) rfl rfl, fun U hU hW => ⟨rfl, by rw [hU], by rw [hU]; exact hPc, va_K.moved hW.alike hKc, hDc.weaken (fun _ _ _ _ => trivial)⟩⟩ rfl rfl hl.1 rfl (lv_room (Nat.le_of_ble_eq_true rfl)) dL_law_396 ⟨Nat.le_of_ble_eq_true rfl, Nat.le_of_ble_eq_true rfl⟩) hS (fun q _ h => hFc q h) hFc (fun r_1647 u t H1 locs ht hvm hw hB hz1 hk1 hS => ?_)
  have hP1 : va_P (dC, dI) vwCl [] H1 := fun k q h => by simp at h
  have hD1 : va_D (va_A (wd_495 r k) H.size) [] := ⟨fun i j p q h => by simp at h, fun k q h => by simp at h⟩
  obtain ⟨hP, hD⟩ := va_join (wr := (wd_758 rm km)) (w1 := []) hP hD [0, 1, 2, 3, 4, 5, 6, 7, 8, 9, 10, 11, 12, 13] [14, 15, 16, 17, 18] rfl rfl (by decide) (by decide) hk1 hFc hP1 hD1
  generalize H1 = H at hP hS ⊢
  have hP : va_P (dC, dI) vwCl (wd_758 rm km) H := hP
  have hD : va_D A (wd_758 rm km) := hD
  obtain rfl : r_1647 = (-1000000) := hw
  refine lv_aload_n hx hb dL_law_399 rfl (lv_at hl 1 rfl) ?_
  refine lv_aload_n hx hb dL_law_400 rfl (lv_at hl 3 rfl) ?_
  refine lv_iload_n hx hb dL_law_401 rfl (lv_at hl 0 rfl) ?_
  refine lv_iconst (v := 1) hx hb dL_law_402 (by decide) ?_
  refine lv_iadd hx hb dL_law_403 ?_
  refine lv_topi (fun x_1648 ex_1648 => ?_)
  obtain rfl : x_1648 = 1 := ex_1648.trans (by decide)
  refine va_sld hx hb hX hbl hbA hS (vpi (by decide)) dL_law_404 ?_
  refine lv_topi (fun x_1649 ex_1649 => ?_)
  obtain rfl : x_1649 = xs 1 := ex_1649
  have hPc := hP.sub (ws' := (wd_758 rm km)) [0, 1, 2, 3, 4] rfl
  have hDc := hD.sub (ws' := (wd_758 rm km)) [0, 1, 2, 3, 4] (by decide) rfl
  have hKc := hK.sub (tys' := [((km 0), .int), ((km 1), .int), ((km 2), .int), ((km 3), .int)]) [3, 4, 5, 6] rfl
  have hFc := va_free (wc := (wd_758 rm km)) hD hS hA [0, 1, 2, 3, 4] rfl
  refine va_calli (va_runV (As := [.int (xs 1)]) (rest := [.int (-1000000)]) ⟨hx, hb, hml, hown, hts⟩ (mX12_stage l dC dI rm km (xs 1) H.size) (cwV 1 hts (gV q_539 q_540 q_541 q_372 q_444) rfl rfl rfl mdv_yX12_stage ⟨Nat.le_of_ble_eq_true rfl, Nat.le_of_ble_eq_true rfl⟩) ⟨fun a U g mk q => by obtain ⟨q0, q1, qP, qK, qD⟩ := q; exact ⟨q0, q1, qP, va_K.moved (u := U) (U := U.calling g mk a) (Vm.Alike.refl U.vm) qK, qD⟩, va_recv hKc hPc (ci := 12) (q0 := 0) rfl rfl, fun U hU hW => ⟨rfl, by rw [hU], by rw [hU]; exact hPc, va_K.moved hW.alike hKc, hDc.weaken (fun _ _ _ _ => trivial)⟩⟩ rfl rfl hl.1 rfl (lv_room (Nat.le_of_ble_eq_true rfl)) dL_law_405 ⟨Nat.le_of_ble_eq_true rfl, Nat.le_of_ble_eq_true rfl⟩) hS (fun q _ h => hFc q h) hFc (fun r_1650 u t H1 locs ht hvm hw hB hz1 hk1 hS => ?_)
  have hP1 : va_P (dC, dI) vwCl [] H1 := fun k q h => by simp at h
  have hD1 : va_D (va_A (wd_758 rm km) H.size) [] := ⟨fun i j p q h => by simp at h, fun k q h => by simp at h⟩
  obtain ⟨hP, hD⟩ := va_join (wr := []) (w1 := []) hP hD [0, 1, 2, 3, 4] [] rfl rfl (by decide) (by decide) hk1 hFc hP1 hD1
  generalize H1 = H at hP hS ⊢
  have hP : va_P (dC, dI) vwCl [] H := hP
  have hD : va_D A [] := hD
  obtain rfl : r_1650 = (-1000000) := hw
  refine lv_icmp_eq (tgt := 1165) hx hb dL_law_408 (by decide) (fun c_0 => ?_) (fun c_0 => absurd c_0 (by decide))
  exact law_tail C1 hS (lv_sub hl [0, 3] rfl)
set_option maxHeartbeats 4000000 in
set_option maxRecDepth 100000 in
theorem law_c7 {p : Program} {l : Launch} {e : Env} {s : State} {m : MethodId} {below : List Frame} {meth : Method} {c : Code} {b : Nat} {xs : Nat → Int32} {A : Nat → Prop} {H : Heap} {locs : List Loc} {ls : Array Slot} {dC : Nat → ClassId} {dI : Nat → Nat → Nat} {r : Nat → Nat} {k : Nat → ClassId} {rm : Nat → Nat} {km : Nat → ClassId} (C1 : lw_C p s m meth c b 6 xs A) (hP : va_P (dC, dI) vwCl (wd_897 r k rm km) H) (hD : va_D A (wd_897 r k rm km)) (hK : va_K (dC, dI) vwCl [((k 0), .int), ((k 1), .int), ((k 2), .int), ((km 0), .int), ((km 1), .int), ((km 2), .int), ((km 3), .int)] s) (hS : va_S A s.heap H locs) (hl : lv_has ls 4 [(3, .int 0), (2, .ref (rm 0)), (1, .ref (r 0)), (0, .ref b)]) : W p l e room_1 s m #[Value.ref b] below meth c H locs 179 95325 (lw_Z below #[Value.ref b] s) (F0 m 413 ls []) := by
  obtain ⟨hx, hb, hr, hml, hown, hts, hlocks, hX, hbl, hA, hAl, hbA⟩ := id C1
  refine lv_aload_n hx hb dL_law_413 rfl (lv_at hl 2 rfl) ?_
  refine lv_aload_n hx hb dL_law_414 rfl (lv_at hl 3 rfl) ?_
  refine lv_iload_n hx hb dL_law_415 rfl (lv_at hl 0 rfl) ?_
  refine lv_iconst (v := 1) hx hb dL_law_416 (by decide) ?_
  refine lv_iadd hx hb dL_law_417 ?_
  refine lv_topi (fun x_1651 ex_1651 => ?_)
  obtain rfl : x_1651 = 1 := ex_1651.trans (by decide)
  refine va_sld hx hb hX hbl hbA hS (vpi (by decide)) dL_law_418 ?_
  refine lv_topi (fun x_1652 ex_1652 => ?_)
  obtain rfl : x_1652 = xs 1 := ex_1652
  refine lv_aload_n hx hb dL_law_419 rfl (lv_at hl 3 rfl) ?_
  refine lv_iload_n hx hb dL_law_420 rfl (lv_at hl 0 rfl) ?_
  refine lv_iconst (v := 2) hx hb dL_law_421 (by decide) ?_
  refine lv_iadd hx hb dL_law_422 ?_
  refine lv_topi (fun x_1653 ex_1653 => ?_)
  obtain rfl : x_1653 = 2 := ex_1653.trans (by decide)
  refine va_sld hx hb hX hbl hbA hS (vpi (by decide)) dL_law_423 ?_
  refine lv_topi (fun x_1654 ex_1654 => ?_)
  obtain rfl : x_1654 = xs 2 := ex_1654
  have hPc := hP.sub (ws' := (wd_495 r k)) [0, 1, 2, 3, 4, 5, 6, 7, 8, 9, 10, 11, 12, 13] rfl
  have hDc := hD.sub (ws' := (wd_495 r k)) [0, 1, 2, 3, 4, 5, 6, 7, 8, 9, 10, 11, 12, 13] (by decide) rfl
  have hKc := hK.sub (tys' := [((k 0), .int), ((k 1), .int), ((k 2), .int)]) [0, 1, 2] rfl
  have hFc := va_free (wc := (wd_495 r k)) hD hS hA [0, 1, 2, 3, 4, 5, 6, 7, 8, 9, 10, 11, 12, 13] rfl
  refine va_calli (va_runV (As := [.int (xs 1), .int (xs 2)]) (rest := []) ⟨hx, hb, hml, hown, hts⟩ (mX11_kept l dC dI r k (xs 1) (xs 2) H.size) (cwV 2 hts (gV q_542 q_543 q_544 q_257 q_310) rfl rfl rfl mdv_yX11_kept ⟨Nat.le_of_ble_eq_true rfl, Nat.le_of_ble_eq_true rfl⟩) ⟨fun a U g mk q => by obtain ⟨q0, q1, qP, qK, qD⟩ := q; exact ⟨q0, q1, qP, va_K.moved (u := U) (U := U.calling g mk a) (Vm.Alike.refl U.vm) qK, qD⟩, va_recv hKc hPc (ci := 11) (q0 := 0) rfl rfl, fun U hU hW => ⟨rfl, by rw [hU], by rw [hU]; exact hPc, va_K.moved hW.alike hKc, hDc.weaken (fun _ _ _ _ => trivial)⟩⟩ rfl rfl hl.1 rfl (lv_room (Nat.le_of_ble_eq_true rfl)) dL_law_424 ⟨Nat.le_of_ble_eq_true rfl, Nat.le_of_ble_eq_true rfl⟩) hS (fun q _ h => hFc q h) hFc (fun r_1655 u t H1 locs ht hvm hw hB hz1 hk1 hS => ?_)
  have hP1 : va_P (dC, dI) vwCl [] H1 := fun k q h => by simp at h
  have hD1 : va_D (va_A (wd_495 r k) H.size) [] := ⟨fun i j p q h => by simp at h, fun k q h => by simp at h⟩
  obtain ⟨hP, hD⟩ := va_join (wr := (wd_758 rm km)) (w1 := []) hP hD [0, 1, 2, 3, 4, 5, 6, 7, 8, 9, 10, 11, 12, 13] [14, 15, 16, 17, 18] rfl rfl (by decide) (by decide) hk1 hFc hP1 hD1
  generalize H1 = H at hP hS ⊢
  have hP : va_P (dC, dI) vwCl (wd_758 rm km) H := hP
  have hD : va_D A (wd_758 rm km) := hD
  obtain rfl : r_1655 = (-1) := hw
  refine lv_aload_n hx hb dL_law_427 rfl (lv_at hl 1 rfl) ?_
  refine lv_aload_n hx hb dL_law_428 rfl (lv_at hl 3 rfl) ?_
  refine lv_iload_n hx hb dL_law_429 rfl (lv_at hl 0 rfl) ?_
  refine lv_iconst (v := 1) hx hb dL_law_430 (by decide) ?_
  refine lv_iadd hx hb dL_law_431 ?_
  refine lv_topi (fun x_1656 ex_1656 => ?_)
  obtain rfl : x_1656 = 1 := ex_1656.trans (by decide)
  refine va_sld hx hb hX hbl hbA hS (vpi (by decide)) dL_law_432 ?_
  refine lv_topi (fun x_1657 ex_1657 => ?_)
  obtain rfl : x_1657 = xs 1 := ex_1657
  refine lv_aload_n hx hb dL_law_433 rfl (lv_at hl 3 rfl) ?_
  refine lv_iload_n hx hb dL_law_434 rfl (lv_at hl 0 rfl) ?_
  refine lv_iconst (v := 2) hx hb dL_law_435 (by decide) ?_
  refine lv_iadd hx hb dL_law_436 ?_
  refine lv_topi (fun x_1658 ex_1658 => ?_)
  obtain rfl : x_1658 = 2 := ex_1658.trans (by decide)
  refine va_sld hx hb hX hbl hbA hS (vpi (by decide)) dL_law_437 ?_
  refine lv_topi (fun x_1659 ex_1659 => ?_)
  obtain rfl : x_1659 = xs 2 := ex_1659
  have hPc := hP.sub (ws' := (wd_758 rm km)) [0, 1, 2, 3, 4] rfl
  have hDc := hD.sub (ws' := (wd_758 rm km)) [0, 1, 2, 3, 4] (by decide) rfl
  have hKc := hK.sub (tys' := [((km 0), .int), ((km 1), .int), ((km 2), .int), ((km 3), .int)]) [3, 4, 5, 6] rfl
  have hFc := va_free (wc := (wd_758 rm km)) hD hS hA [0, 1, 2, 3, 4] rfl
  refine va_calli (va_runV (As := [.int (xs 1), .int (xs 2)]) (rest := [.int (-1)]) ⟨hx, hb, hml, hown, hts⟩ (mX12_kept l dC dI rm km (xs 1) (xs 2) H.size) (cwV 2 hts (gV q_545 q_546 q_547 q_372 q_445) rfl rfl rfl mdv_yX12_kept ⟨Nat.le_of_ble_eq_true rfl, Nat.le_of_ble_eq_true rfl⟩) ⟨fun a U g mk q => by obtain ⟨q0, q1, qP, qK, qD⟩ := q; exact ⟨q0, q1, qP, va_K.moved (u := U) (U := U.calling g mk a) (Vm.Alike.refl U.vm) qK, qD⟩, va_recv hKc hPc (ci := 12) (q0 := 0) rfl rfl, fun U hU hW => ⟨rfl, by rw [hU], by rw [hU]; exact hPc, va_K.moved hW.alike hKc, hDc.weaken (fun _ _ _ _ => trivial)⟩⟩ rfl rfl hl.1 rfl (lv_room (Nat.le_of_ble_eq_true rfl)) dL_law_438 ⟨Nat.le_of_ble_eq_true rfl, Nat.le_of_ble_eq_true rfl⟩) hS (fun q _ h => hFc q h) hFc (fun r_1660 u t H1 locs ht hvm hw hB hz1 hk1 hS => ?_)
  have hP1 : va_P (dC, dI) vwCl [] H1 := fun k q h => by simp at h
  have hD1 : va_D (va_A (wd_758 rm km) H.size) [] := ⟨fun i j p q h => by simp at h, fun k q h => by simp at h⟩
  obtain ⟨hP, hD⟩ := va_join (wr := []) (w1 := []) hP hD [0, 1, 2, 3, 4] [] rfl rfl (by decide) (by decide) hk1 hFc hP1 hD1
  generalize H1 = H at hP hS ⊢
  have hP : va_P (dC, dI) vwCl [] H := hP
  have hD : va_D A [] := hD
  obtain rfl : r_1660 = (-1) := hw
  refine lv_icmp_eq (tgt := 1165) hx hb dL_law_441 (by decide) (fun c_0 => ?_) (fun c_0 => absurd c_0 (by decide))
  exact law_tail C1 hS (lv_sub hl [0, 3] rfl)
set_option maxHeartbeats 4000000 in
set_option maxRecDepth 100000 in
theorem law_c8 {p : Program} {l : Launch} {e : Env} {s : State} {m : MethodId} {below : List Frame} {meth : Method} {c : Code} {b : Nat} {xs : Nat → Int32} {A : Nat → Prop} {H : Heap} {locs : List Loc} {ls : Array Slot} {dC : Nat → ClassId} {dI : Nat → Nat → Nat} {r : Nat → Nat} {k : Nat → ClassId} {rm : Nat → Nat} {km : Nat → ClassId} (C1 : lw_C p s m meth c b 6 xs A) (hP : va_P (dC, dI) vwCl (wd_897 r k rm km) H) (hD : va_D A (wd_897 r k rm km)) (hK : va_K (dC, dI) vwCl [((k 0), .int), ((k 1), .int), ((k 2), .int), ((km 0), .int), ((km 1), .int), ((km 2), .int), ((km 3), .int)] s) (hS : va_S A s.heap H locs) (hl : lv_has ls 4 [(3, .int 0), (2, .ref (rm 0)), (1, .ref (r 0)), (0, .ref b)]) : W p l e room_1 s m #[Value.ref b] below meth c H locs 179 95325 (lw_Z below #[Value.ref b] s) (F0 m 446 ls []) := by
  obtain ⟨hx, hb, hr, hml, hown, hts, hlocks, hX, hbl, hA, hAl, hbA⟩ := id C1
  refine lv_aload_n hx hb dL_law_446 rfl (lv_at hl 2 rfl) ?_
  refine lv_aload_n hx hb dL_law_447 rfl (lv_at hl 3 rfl) ?_
  refine lv_iload_n hx hb dL_law_448 rfl (lv_at hl 0 rfl) ?_
  refine lv_iconst (v := 1) hx hb dL_law_449 (by decide) ?_
  refine lv_iadd hx hb dL_law_450 ?_
  refine lv_topi (fun x_1661 ex_1661 => ?_)
  obtain rfl : x_1661 = 1 := ex_1661.trans (by decide)
  refine va_sld hx hb hX hbl hbA hS (vpi (by decide)) dL_law_451 ?_
  refine lv_topi (fun x_1662 ex_1662 => ?_)
  obtain rfl : x_1662 = xs 1 := ex_1662
  refine lv_aload_n hx hb dL_law_452 rfl (lv_at hl 3 rfl) ?_
  refine lv_iload_n hx hb dL_law_453 rfl (lv_at hl 0 rfl) ?_
  refine lv_iconst (v := 2) hx hb dL_law_454 (by decide) ?_
  refine lv_iadd hx hb dL_law_455 ?_
  refine lv_topi (fun x_1663 ex_1663 => ?_)
  obtain rfl : x_1663 = 2 := ex_1663.trans (by decide)
  refine va_sld hx hb hX hbl hbA hS (vpi (by decide)) dL_law_456 ?_
  refine lv_topi (fun x_1664 ex_1664 => ?_)
  obtain rfl : x_1664 = xs 2 := ex_1664
  have hPc := hP.sub (ws' := (wd_495 r k)) [0, 1, 2, 3, 4, 5, 6, 7, 8, 9, 10, 11, 12, 13] rfl
  have hDc := hD.sub (ws' := (wd_495 r k)) [0, 1, 2, 3, 4, 5, 6, 7, 8, 9, 10, 11, 12, 13] (by decide) rfl
  have hKc := hK.sub (tys' := [((k 0), .int), ((k 1), .int), ((k 2), .int)]) [0, 1, 2] rfl
  have hFc := va_free (wc := (wd_495 r k)) hD hS hA [0, 1, 2, 3, 4, 5, 6, 7, 8, 9, 10, 11, 12, 13] rfl
  refine va_calli (va_runV (As := [.int (xs 1), .int (xs 2)]) (rest := []) ⟨hx, hb, hml, hown, hts⟩ (mX11_cell l dC dI r k (xs 1) (xs 2) H.size) (cwV 2 hts (gV q_548 q_549 q_550 q_257 q_311) rfl rfl rfl mdv_yX11_cell ⟨Nat.le_of_ble_eq_true rfl, Nat.le_of_ble_eq_true rfl⟩) ⟨fun a U g mk q => by obtain ⟨q0, q1, qP, qK, qD⟩ := q; exact ⟨q0, q1, qP, va_K.moved (u := U) (U := U.calling g mk a) (Vm.Alike.refl U.vm) qK, qD⟩, va_recv hKc hPc (ci := 11) (q0 := 0) rfl rfl, fun U hU hW => ⟨rfl, by rw [hU], by rw [hU]; exact hPc, va_K.moved hW.alike hKc, hDc.weaken (fun _ _ _ _ => trivial)⟩⟩ rfl rfl hl.1 rfl (lv_room (Nat.le_of_ble_eq_true rfl)) dL_law_457 ⟨Nat.le_of_ble_eq_true rfl, Nat.le_of_ble_eq_true rfl⟩) hS (fun q _ h => hFc q h) hFc (fun r_1665 u t H1 locs ht hvm hw hB hz1 hk1 hS => ?_)
  have hP1 : va_P (dC, dI) vwCl [] H1 := fun k q h => by simp at h
  have hD1 : va_D (va_A (wd_495 r k) H.size) [] := ⟨fun i j p q h => by simp at h, fun k q h => by simp at h⟩
  obtain ⟨hP, hD⟩ := va_join (wr := (wd_758 rm km)) (w1 := []) hP hD [0, 1, 2, 3, 4, 5, 6, 7, 8, 9, 10, 11, 12, 13] [14, 15, 16, 17, 18] rfl rfl (by decide) (by decide) hk1 hFc hP1 hD1
  generalize H1 = H at hP hS ⊢
  have hP : va_P (dC, dI) vwCl (wd_758 rm km) H := hP
  have hD : va_D A (wd_758 rm km) := hD
  obtain rfl : r_1665 = (-1) := hw
  refine lv_aload_n hx hb dL_law_460 rfl (lv_at hl 1 rfl) ?_
  refine lv_aload_n hx hb dL_law_461 rfl (lv_at hl 3 rfl) ?_
  refine lv_iload_n hx hb dL_law_462 rfl (lv_at hl 0 rfl) ?_
  refine lv_iconst (v := 1) hx hb dL_law_463 (by decide) ?_
  refine lv_iadd hx hb dL_law_464 ?_
  refine lv_topi (fun x_1666 ex_1666 => ?_)
  obtain rfl : x_1666 = 1 := ex_1666.trans (by decide)
  refine va_sld hx hb hX hbl hbA hS (vpi (by decide)) dL_law_465 ?_
  refine lv_topi (fun x_1667 ex_1667 => ?_)
  obtain rfl : x_1667 = xs 1 := ex_1667
  refine lv_aload_n hx hb dL_law_466 rfl (lv_at hl 3 rfl) ?_
  refine lv_iload_n hx hb dL_law_467 rfl (lv_at hl 0 rfl) ?_
  refine lv_iconst (v := 2) hx hb dL_law_468 (by decide) ?_
  refine lv_iadd hx hb dL_law_469 ?_
  refine lv_topi (fun x_1668 ex_1668 => ?_)
  obtain rfl : x_1668 = 2 := ex_1668.trans (by decide)
  refine va_sld hx hb hX hbl hbA hS (vpi (by decide)) dL_law_470 ?_
  refine lv_topi (fun x_1669 ex_1669 => ?_)
  obtain rfl : x_1669 = xs 2 := ex_1669
  have hPc := hP.sub (ws' := (wd_758 rm km)) [0, 1, 2, 3, 4] rfl
  have hDc := hD.sub (ws' := (wd_758 rm km)) [0, 1, 2, 3, 4] (by decide) rfl
  have hKc := hK.sub (tys' := [((km 0), .int), ((km 1), .int), ((km 2), .int), ((km 3), .int)]) [3, 4, 5, 6] rfl
  have hFc := va_free (wc := (wd_758 rm km)) hD hS hA [0, 1, 2, 3, 4] rfl
  refine va_calli (va_runV (As := [.int (xs 1), .int (xs 2)]) (rest := [.int (-1)]) ⟨hx, hb, hml, hown, hts⟩ (mX12_cell l dC dI rm km (xs 1) (xs 2) H.size) (cwV 2 hts (gV q_551 q_552 q_553 q_372 q_448) rfl rfl rfl mdv_yX12_cell ⟨Nat.le_of_ble_eq_true rfl, Nat.le_of_ble_eq_true rfl⟩) ⟨fun a U g mk q => by obtain ⟨q0, q1, qP, qK, qD⟩ := q; exact ⟨q0, q1, qP, va_K.moved (u := U) (U := U.calling g mk a) (Vm.Alike.refl U.vm) qK, qD⟩, va_recv hKc hPc (ci := 12) (q0 := 0) rfl rfl, fun U hU hW => ⟨rfl, by rw [hU], by rw [hU]; exact hPc, va_K.moved hW.alike hKc, hDc.weaken (fun _ _ _ _ => trivial)⟩⟩ rfl rfl hl.1 rfl (lv_room (Nat.le_of_ble_eq_true rfl)) dL_law_471 ⟨Nat.le_of_ble_eq_true rfl, Nat.le_of_ble_eq_true rfl⟩) hS (fun q _ h => hFc q h) hFc (fun r_1670 u t H1 locs ht hvm hw hB hz1 hk1 hS => ?_)
  have hP1 : va_P (dC, dI) vwCl [] H1 := fun k q h => by simp at h
  have hD1 : va_D (va_A (wd_758 rm km) H.size) [] := ⟨fun i j p q h => by simp at h, fun k q h => by simp at h⟩
  obtain ⟨hP, hD⟩ := va_join (wr := []) (w1 := []) hP hD [0, 1, 2, 3, 4] [] rfl rfl (by decide) (by decide) hk1 hFc hP1 hD1
  generalize H1 = H at hP hS ⊢
  have hP : va_P (dC, dI) vwCl [] H := hP
  have hD : va_D A [] := hD
  obtain rfl : r_1670 = (-1) := hw
  refine lv_icmp_eq (tgt := 1165) hx hb dL_law_474 (by decide) (fun c_0 => ?_) (fun c_0 => absurd c_0 (by decide))
  exact law_tail C1 hS (lv_sub hl [0, 3] rfl)
set_option maxHeartbeats 4000000 in
set_option maxRecDepth 100000 in
theorem law_c9 {p : Program} {l : Launch} {e : Env} {s : State} {m : MethodId} {below : List Frame} {meth : Method} {c : Code} {b : Nat} {xs : Nat → Int32} {A : Nat → Prop} {H : Heap} {locs : List Loc} {ls : Array Slot} {dC : Nat → ClassId} {dI : Nat → Nat → Nat} {r : Nat → Nat} {k : Nat → ClassId} {rm : Nat → Nat} {km : Nat → ClassId} (C1 : lw_C p s m meth c b 6 xs A) (hP : va_P (dC, dI) vwCl (wd_897 r k rm km) H) (hD : va_D A (wd_897 r k rm km)) (hK : va_K (dC, dI) vwCl [((k 0), .int), ((k 1), .int), ((k 2), .int), ((km 0), .int), ((km 1), .int), ((km 2), .int), ((km 3), .int)] s) (hS : va_S A s.heap H locs) (hl : lv_has ls 4 [(3, .int 0), (2, .ref (rm 0)), (1, .ref (r 0)), (0, .ref b)]) : W p l e room_1 s m #[Value.ref b] below meth c H locs 179 95325 (lw_Z below #[Value.ref b] s) (F0 m 479 ls []) := by
  obtain ⟨hx, hb, hr, hml, hown, hts, hlocks, hX, hbl, hA, hAl, hbA⟩ := id C1
  refine lv_aload_n hx hb dL_law_479 rfl (lv_at hl 2 rfl) ?_
  refine lv_aload_n hx hb dL_law_480 rfl (lv_at hl 3 rfl) ?_
  refine lv_iload_n hx hb dL_law_481 rfl (lv_at hl 0 rfl) ?_
  refine lv_iconst (v := 1) hx hb dL_law_482 (by decide) ?_
  refine lv_iadd hx hb dL_law_483 ?_
  refine lv_topi (fun x_1671 ex_1671 => ?_)
  obtain rfl : x_1671 = 1 := ex_1671.trans (by decide)
  refine va_sld hx hb hX hbl hbA hS (vpi (by decide)) dL_law_484 ?_
  refine lv_topi (fun x_1672 ex_1672 => ?_)
  obtain rfl : x_1672 = xs 1 := ex_1672
  have hPc := hP.sub (ws' := (wd_495 r k)) [0, 1, 2, 3, 4, 5, 6, 7, 8, 9, 10, 11, 12, 13] rfl
  have hDc := hD.sub (ws' := (wd_495 r k)) [0, 1, 2, 3, 4, 5, 6, 7, 8, 9, 10, 11, 12, 13] (by decide) rfl
  have hKc := hK.sub (tys' := [((k 0), .int), ((k 1), .int), ((k 2), .int)]) [0, 1, 2] rfl
  have hFc := va_free (wc := (wd_495 r k)) hD hS hA [0, 1, 2, 3, 4, 5, 6, 7, 8, 9, 10, 11, 12, 13] rfl
  refine va_calli (va_runV (As := [.int (xs 1)]) (rest := []) ⟨hx, hb, hml, hown, hts⟩ (mX11_cellOf l dC dI r k (xs 1) H.size) (cwV 1 hts (gV q_554 q_555 q_556 q_257 q_316) rfl rfl rfl mdv_yX11_cellOf ⟨Nat.le_of_ble_eq_true rfl, Nat.le_of_ble_eq_true rfl⟩) ⟨fun a U g mk q => by obtain ⟨q0, q1, qP, qK, qD⟩ := q; exact ⟨q0, q1, qP, va_K.moved (u := U) (U := U.calling g mk a) (Vm.Alike.refl U.vm) qK, qD⟩, va_recv hKc hPc (ci := 11) (q0 := 0) rfl rfl, fun U hU hW => ⟨rfl, by rw [hU], by rw [hU]; exact hPc, va_K.moved hW.alike hKc, hDc.weaken (fun _ _ _ _ => trivial)⟩⟩ rfl rfl hl.1 rfl (lv_room (Nat.le_of_ble_eq_true rfl)) dL_law_485 ⟨Nat.le_of_ble_eq_true rfl, Nat.le_of_ble_eq_true rfl⟩) hS (fun q _ h => hFc q h) hFc (fun r_1673 u t H1 locs ht hvm hw hB hz1 hk1 hS => ?_)
  have hP1 : va_P (dC, dI) vwCl [] H1 := fun k q h => by simp at h
  have hD1 : va_D (va_A (wd_495 r k) H.size) [] := ⟨fun i j p q h => by simp at h, fun k q h => by simp at h⟩
  obtain ⟨hP, hD⟩ := va_join (wr := (wd_758 rm km)) (w1 := []) hP hD [0, 1, 2, 3, 4, 5, 6, 7, 8, 9, 10, 11, 12, 13] [14, 15, 16, 17, 18] rfl rfl (by decide) (by decide) hk1 hFc hP1 hD1
  generalize H1 = H at hP hS ⊢
  have hP : va_P (dC, dI) vwCl (wd_758 rm km) H := hP
  have hD : va_D A (wd_758 rm km) := hD
  obtain rfl : r_1673 = (-1) := hw
  refine lv_aload_n hx hb dL_law_488 rfl (lv_at hl 1 rfl) ?_
  refine lv_aload_n hx hb dL_law_489 rfl (lv_at hl 3 rfl) ?_
  refine lv_iload_n hx hb dL_law_490 rfl (lv_at hl 0 rfl) ?_
  refine lv_iconst (v := 1) hx hb dL_law_491 (by decide) ?_
  refine lv_iadd hx hb dL_law_492 ?_
  refine lv_topi (fun x_1674 ex_1674 => ?_)
  obtain rfl : x_1674 = 1 := ex_1674.trans (by decide)
  refine va_sld hx hb hX hbl hbA hS (vpi (by decide)) dL_law_493 ?_
  refine lv_topi (fun x_1675 ex_1675 => ?_)
  obtain rfl : x_1675 = xs 1 := ex_1675
  have hPc := hP.sub (ws' := (wd_758 rm km)) [0, 1, 2, 3, 4] rfl
  have hDc := hD.sub (ws' := (wd_758 rm km)) [0, 1, 2, 3, 4] (by decide) rfl
  have hKc := hK.sub (tys' := [((km 0), .int), ((km 1), .int), ((km 2), .int), ((km 3), .int)]) [3, 4, 5, 6] rfl
  have hFc := va_free (wc := (wd_758 rm km)) hD hS hA [0, 1, 2, 3, 4] rfl
  refine va_calli (va_runV (As := [.int (xs 1)]) (rest := [.int (-1)]) ⟨hx, hb, hml, hown, hts⟩ (mX12_cellOf l dC dI rm km (xs 1) H.size) (cwV 1 hts (gV q_557 q_558 q_559 q_372 q_453) rfl rfl rfl mdv_yX12_cellOf ⟨Nat.le_of_ble_eq_true rfl, Nat.le_of_ble_eq_true rfl⟩) ⟨fun a U g mk q => by obtain ⟨q0, q1, qP, qK, qD⟩ := q; exact ⟨q0, q1, qP, va_K.moved (u := U) (U := U.calling g mk a) (Vm.Alike.refl U.vm) qK, qD⟩, va_recv hKc hPc (ci := 12) (q0 := 0) rfl rfl, fun U hU hW => ⟨rfl, by rw [hU], by rw [hU]; exact hPc, va_K.moved hW.alike hKc, hDc.weaken (fun _ _ _ _ => trivial)⟩⟩ rfl rfl hl.1 rfl (lv_room (Nat.le_of_ble_eq_true rfl)) dL_law_494 ⟨Nat.le_of_ble_eq_true rfl, Nat.le_of_ble_eq_true rfl⟩) hS (fun q _ h => hFc q h) hFc (fun r_1676 u t H1 locs ht hvm hw hB hz1 hk1 hS => ?_)
  have hP1 : va_P (dC, dI) vwCl [] H1 := fun k q h => by simp at h
  have hD1 : va_D (va_A (wd_758 rm km) H.size) [] := ⟨fun i j p q h => by simp at h, fun k q h => by simp at h⟩
  obtain ⟨hP, hD⟩ := va_join (wr := []) (w1 := []) hP hD [0, 1, 2, 3, 4] [] rfl rfl (by decide) (by decide) hk1 hFc hP1 hD1
  generalize H1 = H at hP hS ⊢
  have hP : va_P (dC, dI) vwCl [] H := hP
  have hD : va_D A [] := hD
  obtain rfl : r_1676 = (-1) := hw
  refine lv_icmp_eq (tgt := 1165) hx hb dL_law_497 (by decide) (fun c_0 => ?_) (fun c_0 => absurd c_0 (by decide))
  exact law_tail C1 hS (lv_sub hl [0, 3] rfl)
set_option maxHeartbeats 4000000 in
set_option maxRecDepth 100000 in
theorem law_c10 {p : Program} {l : Launch} {e : Env} {s : State} {m : MethodId} {below : List Frame} {meth : Method} {c : Code} {b : Nat} {xs : Nat → Int32} {A : Nat → Prop} {H : Heap} {locs : List Loc} {ls : Array Slot} {dC : Nat → ClassId} {dI : Nat → Nat → Nat} {r : Nat → Nat} {k : Nat → ClassId} {rm : Nat → Nat} {km : Nat → ClassId} (C1 : lw_C p s m meth c b 6 xs A) (hP : va_P (dC, dI) vwCl (wd_897 r k rm km) H) (hD : va_D A (wd_897 r k rm km)) (hK : va_K (dC, dI) vwCl [((k 0), .int), ((k 1), .int), ((k 2), .int), ((km 0), .int), ((km 1), .int), ((km 2), .int), ((km 3), .int)] s) (hS : va_S A s.heap H locs) (hl : lv_has ls 4 [(3, .int 0), (2, .ref (rm 0)), (1, .ref (r 0)), (0, .ref b)]) : W p l e room_1 s m #[Value.ref b] below meth c H locs 179 95325 (lw_Z below #[Value.ref b] s) (F0 m 502 ls []) := by
  obtain ⟨hx, hb, hr, hml, hown, hts, hlocks, hX, hbl, hA, hAl, hbA⟩ := id C1
  refine lv_aload_n hx hb dL_law_502 rfl (lv_at hl 2 rfl) ?_
  refine lv_aload_n hx hb dL_law_503 rfl (lv_at hl 3 rfl) ?_
  refine lv_iload_n hx hb dL_law_504 rfl (lv_at hl 0 rfl) ?_
  refine lv_iconst (v := 1) hx hb dL_law_505 (by decide) ?_
  refine lv_iadd hx hb dL_law_506 ?_
  refine lv_topi (fun x_1677 ex_1677 => ?_)
  obtain rfl : x_1677 = 1 := ex_1677.trans (by decide)
  refine va_sld hx hb hX hbl hbA hS (vpi (by decide)) dL_law_507 ?_
  refine lv_topi (fun x_1678 ex_1678 => ?_)
  obtain rfl : x_1678 = xs 1 := ex_1678
  have hPc := hP.sub (ws' := (wd_495 r k)) [0, 1, 2, 3, 4, 5, 6, 7, 8, 9, 10, 11, 12, 13] rfl
  have hDc := hD.sub (ws' := (wd_495 r k)) [0, 1, 2, 3, 4, 5, 6, 7, 8, 9, 10, 11, 12, 13] (by decide) rfl
  have hKc := hK.sub (tys' := [((k 0), .int), ((k 1), .int), ((k 2), .int)]) [0, 1, 2] rfl
  have hFc := va_free (wc := (wd_495 r k)) hD hS hA [0, 1, 2, 3, 4, 5, 6, 7, 8, 9, 10, 11, 12, 13] rfl
  refine va_calli (va_runV (As := [.int (xs 1)]) (rest := []) ⟨hx, hb, hml, hown, hts⟩ (mX11_goes l dC dI r k (xs 1) H.size) (cwV 1 hts (gV q_560 q_561 q_562 q_257 q_325) rfl rfl rfl mdv_yX11_goes ⟨Nat.le_of_ble_eq_true rfl, Nat.le_of_ble_eq_true rfl⟩) ⟨fun a U g mk q => by obtain ⟨q0, q1, qP, qK, qD⟩ := q; exact ⟨q0, q1, qP, va_K.moved (u := U) (U := U.calling g mk a) (Vm.Alike.refl U.vm) qK, qD⟩, va_recv hKc hPc (ci := 11) (q0 := 0) rfl rfl, fun U hU hW => ⟨rfl, by rw [hU], by rw [hU]; exact hPc, va_K.moved hW.alike hKc, hDc.weaken (fun _ _ _ _ => trivial)⟩⟩ rfl rfl hl.1 rfl (lv_room (Nat.le_of_ble_eq_true rfl)) dL_law_508 ⟨Nat.le_of_ble_eq_true rfl, Nat.le_of_ble_eq_true rfl⟩) hS (fun q _ h => hFc q h) hFc (fun r_1679 u t H1 locs ht hvm hw hB hz1 hk1 hS => ?_)
  have hP1 : va_P (dC, dI) vwCl [] H1 := fun k q h => by simp at h
  have hD1 : va_D (va_A (wd_495 r k) H.size) [] := ⟨fun i j p q h => by simp at h, fun k q h => by simp at h⟩
  obtain ⟨hP, hD⟩ := va_join (wr := (wd_758 rm km)) (w1 := []) hP hD [0, 1, 2, 3, 4, 5, 6, 7, 8, 9, 10, 11, 12, 13] [14, 15, 16, 17, 18] rfl rfl (by decide) (by decide) hk1 hFc hP1 hD1
  generalize H1 = H at hP hS ⊢
  have hP : va_P (dC, dI) vwCl (wd_758 rm km) H := hP
  have hD : va_D A (wd_758 rm km) := hD
  obtain rfl : r_1679 = (-1) := hw
  refine lv_aload_n hx hb dL_law_511 rfl (lv_at hl 1 rfl) ?_
  refine lv_aload_n hx hb dL_law_512 rfl (lv_at hl 3 rfl) ?_
  refine lv_iload_n hx hb dL_law_513 rfl (lv_at hl 0 rfl) ?_
  refine lv_iconst (v := 1) hx hb dL_law_514 (by decide) ?_
  refine lv_iadd hx hb dL_law_515 ?_
  refine lv_topi (fun x_1680 ex_1680 => ?_)
  obtain rfl : x_1680 = 1 := ex_1680.trans (by decide)
  refine va_sld hx hb hX hbl hbA hS (vpi (by decide)) dL_law_516 ?_
  refine lv_topi (fun x_1681 ex_1681 => ?_)
  obtain rfl : x_1681 = xs 1 := ex_1681
  have hPc := hP.sub (ws' := (wd_758 rm km)) [0, 1, 2, 3, 4] rfl
  have hDc := hD.sub (ws' := (wd_758 rm km)) [0, 1, 2, 3, 4] (by decide) rfl
  have hKc := hK.sub (tys' := [((km 0), .int), ((km 1), .int), ((km 2), .int), ((km 3), .int)]) [3, 4, 5, 6] rfl
  have hFc := va_free (wc := (wd_758 rm km)) hD hS hA [0, 1, 2, 3, 4] rfl
  refine va_calli (va_runV (As := [.int (xs 1)]) (rest := [.int (-1)]) ⟨hx, hb, hml, hown, hts⟩ (mX12_goes l dC dI rm km (xs 1) H.size) (cwV 1 hts (gV q_563 q_564 q_565 q_372 q_458) rfl rfl rfl mdv_yX12_goes ⟨Nat.le_of_ble_eq_true rfl, Nat.le_of_ble_eq_true rfl⟩) ⟨fun a U g mk q => by obtain ⟨q0, q1, qP, qK, qD⟩ := q; exact ⟨q0, q1, qP, va_K.moved (u := U) (U := U.calling g mk a) (Vm.Alike.refl U.vm) qK, qD⟩, va_recv hKc hPc (ci := 12) (q0 := 0) rfl rfl, fun U hU hW => ⟨rfl, by rw [hU], by rw [hU]; exact hPc, va_K.moved hW.alike hKc, hDc.weaken (fun _ _ _ _ => trivial)⟩⟩ rfl rfl hl.1 rfl (lv_room (Nat.le_of_ble_eq_true rfl)) dL_law_517 ⟨Nat.le_of_ble_eq_true rfl, Nat.le_of_ble_eq_true rfl⟩) hS (fun q _ h => hFc q h) hFc (fun r_1682 u t H1 locs ht hvm hw hB hz1 hk1 hS => ?_)
  have hP1 : va_P (dC, dI) vwCl [] H1 := fun k q h => by simp at h
  have hD1 : va_D (va_A (wd_758 rm km) H.size) [] := ⟨fun i j p q h => by simp at h, fun k q h => by simp at h⟩
  obtain ⟨hP, hD⟩ := va_join (wr := []) (w1 := []) hP hD [0, 1, 2, 3, 4] [] rfl rfl (by decide) (by decide) hk1 hFc hP1 hD1
  generalize H1 = H at hP hS ⊢
  have hP : va_P (dC, dI) vwCl [] H := hP
  have hD : va_D A [] := hD
  obtain rfl : r_1682 = (-1) := hw
  refine lv_icmp_eq (tgt := 1165) hx hb dL_law_520 (by decide) (fun c_0 => ?_) (fun c_0 => absurd c_0 (by decide))
  exact law_tail C1 hS (lv_sub hl [0, 3] rfl)
set_option maxHeartbeats 4000000 in
set_option maxRecDepth 100000 in
theorem law_c11 {p : Program} {l : Launch} {e : Env} {s : State} {m : MethodId} {below : List Frame} {meth : Method} {c : Code} {b : Nat} {xs : Nat → Int32} {A : Nat → Prop} {H : Heap} {locs : List Loc} {ls : Array Slot} {dC : Nat → ClassId} {dI : Nat → Nat → Nat} {r : Nat → Nat} {k : Nat → ClassId} {rm : Nat → Nat} {km : Nat → ClassId} (C1 : lw_C p s m meth c b 6 xs A) (hP : va_P (dC, dI) vwCl (wd_897 r k rm km) H) (hD : va_D A (wd_897 r k rm km)) (hK : va_K (dC, dI) vwCl [((k 0), .int), ((k 1), .int), ((k 2), .int), ((km 0), .int), ((km 1), .int), ((km 2), .int), ((km 3), .int)] s) (hS : va_S A s.heap H locs) (hl : lv_has ls 4 [(3, .int 0), (2, .ref (rm 0)), (1, .ref (r 0)), (0, .ref b)]) : W p l e room_1 s m #[Value.ref b] below meth c H locs 179 95325 (lw_Z below #[Value.ref b] s) (F0 m 525 ls []) := by
  obtain ⟨hx, hb, hr, hml, hown, hts, hlocks, hX, hbl, hA, hAl, hbA⟩ := id C1
  refine lv_aload_n hx hb dL_law_525 rfl (lv_at hl 2 rfl) ?_
  refine lv_aload_n hx hb dL_law_526 rfl (lv_at hl 3 rfl) ?_
  refine lv_iload_n hx hb dL_law_527 rfl (lv_at hl 0 rfl) ?_
  refine lv_iconst (v := 1) hx hb dL_law_528 (by decide) ?_
  refine lv_iadd hx hb dL_law_529 ?_
  refine lv_topi (fun x_1683 ex_1683 => ?_)
  obtain rfl : x_1683 = 1 := ex_1683.trans (by decide)
  refine va_sld hx hb hX hbl hbA hS (vpi (by decide)) dL_law_530 ?_
  refine lv_topi (fun x_1684 ex_1684 => ?_)
  obtain rfl : x_1684 = xs 1 := ex_1684
  have hPc := hP.sub (ws' := (wd_495 r k)) [0, 1, 2, 3, 4, 5, 6, 7, 8, 9, 10, 11, 12, 13] rfl
  have hDc := hD.sub (ws' := (wd_495 r k)) [0, 1, 2, 3, 4, 5, 6, 7, 8, 9, 10, 11, 12, 13] (by decide) rfl
  have hKc := hK.sub (tys' := [((k 0), .int), ((k 1), .int), ((k 2), .int)]) [0, 1, 2] rfl
  have hFc := va_free (wc := (wd_495 r k)) hD hS hA [0, 1, 2, 3, 4, 5, 6, 7, 8, 9, 10, 11, 12, 13] rfl
  refine va_calli (va_runV (As := [.int (xs 1)]) (rest := []) ⟨hx, hb, hml, hown, hts⟩ (mX11_comes l dC dI r k (xs 1) H.size) (cwV 1 hts (gV q_566 q_567 q_568 q_257 q_326) rfl rfl rfl mdv_yX11_comes ⟨Nat.le_of_ble_eq_true rfl, Nat.le_of_ble_eq_true rfl⟩) ⟨fun a U g mk q => by obtain ⟨q0, q1, qP, qK, qD⟩ := q; exact ⟨q0, q1, qP, va_K.moved (u := U) (U := U.calling g mk a) (Vm.Alike.refl U.vm) qK, qD⟩, va_recv hKc hPc (ci := 11) (q0 := 0) rfl rfl, fun U hU hW => ⟨rfl, by rw [hU], by rw [hU]; exact hPc, va_K.moved hW.alike hKc, hDc.weaken (fun _ _ _ _ => trivial)⟩⟩ rfl rfl hl.1 rfl (lv_room (Nat.le_of_ble_eq_true rfl)) dL_law_531 ⟨Nat.le_of_ble_eq_true rfl, Nat.le_of_ble_eq_true rfl⟩) hS (fun q _ h => hFc q h) hFc (fun r_1685 u t H1 locs ht hvm hw hB hz1 hk1 hS => ?_)
  have hP1 : va_P (dC, dI) vwCl [] H1 := fun k q h => by simp at h
  have hD1 : va_D (va_A (wd_495 r k) H.size) [] := ⟨fun i j p q h => by simp at h, fun k q h => by simp at h⟩
  obtain ⟨hP, hD⟩ := va_join (wr := (wd_758 rm km)) (w1 := []) hP hD [0, 1, 2, 3, 4, 5, 6, 7, 8, 9, 10, 11, 12, 13] [14, 15, 16, 17, 18] rfl rfl (by decide) (by decide) hk1 hFc hP1 hD1
  generalize H1 = H at hP hS ⊢
  have hP : va_P (dC, dI) vwCl (wd_758 rm km) H := hP
  have hD : va_D A (wd_758 rm km) := hD
  obtain rfl : r_1685 = (-1) := hw
  refine lv_aload_n hx hb dL_law_534 rfl (lv_at hl 1 rfl) ?_
  refine lv_aload_n hx hb dL_law_535 rfl (lv_at hl 3 rfl) ?_
  refine lv_iload_n hx hb dL_law_536 rfl (lv_at hl 0 rfl) ?_
  refine lv_iconst (v := 1) hx hb dL_law_537 (by decide) ?_
  refine lv_iadd hx hb dL_law_538 ?_
  refine lv_topi (fun x_1686 ex_1686 => ?_)
  obtain rfl : x_1686 = 1 := ex_1686.trans (by decide)
  refine va_sld hx hb hX hbl hbA hS (vpi (by decide)) dL_law_539 ?_
  refine lv_topi (fun x_1687 ex_1687 => ?_)
  obtain rfl : x_1687 = xs 1 := ex_1687
  have hPc := hP.sub (ws' := (wd_758 rm km)) [0, 1, 2, 3, 4] rfl
  have hDc := hD.sub (ws' := (wd_758 rm km)) [0, 1, 2, 3, 4] (by decide) rfl
  have hKc := hK.sub (tys' := [((km 0), .int), ((km 1), .int), ((km 2), .int), ((km 3), .int)]) [3, 4, 5, 6] rfl
  have hFc := va_free (wc := (wd_758 rm km)) hD hS hA [0, 1, 2, 3, 4] rfl
  refine va_calli (va_runV (As := [.int (xs 1)]) (rest := [.int (-1)]) ⟨hx, hb, hml, hown, hts⟩ (mX12_comes l dC dI rm km (xs 1) H.size) (cwV 1 hts (gV q_569 q_570 q_571 q_372 q_459) rfl rfl rfl mdv_yX12_comes ⟨Nat.le_of_ble_eq_true rfl, Nat.le_of_ble_eq_true rfl⟩) ⟨fun a U g mk q => by obtain ⟨q0, q1, qP, qK, qD⟩ := q; exact ⟨q0, q1, qP, va_K.moved (u := U) (U := U.calling g mk a) (Vm.Alike.refl U.vm) qK, qD⟩, va_recv hKc hPc (ci := 12) (q0 := 0) rfl rfl, fun U hU hW => ⟨rfl, by rw [hU], by rw [hU]; exact hPc, va_K.moved hW.alike hKc, hDc.weaken (fun _ _ _ _ => trivial)⟩⟩ rfl rfl hl.1 rfl (lv_room (Nat.le_of_ble_eq_true rfl)) dL_law_540 ⟨Nat.le_of_ble_eq_true rfl, Nat.le_of_ble_eq_true rfl⟩) hS (fun q _ h => hFc q h) hFc (fun r_1688 u t H1 locs ht hvm hw hB hz1 hk1 hS => ?_)
  have hP1 : va_P (dC, dI) vwCl [] H1 := fun k q h => by simp at h
  have hD1 : va_D (va_A (wd_758 rm km) H.size) [] := ⟨fun i j p q h => by simp at h, fun k q h => by simp at h⟩
  obtain ⟨hP, hD⟩ := va_join (wr := []) (w1 := []) hP hD [0, 1, 2, 3, 4] [] rfl rfl (by decide) (by decide) hk1 hFc hP1 hD1
  generalize H1 = H at hP hS ⊢
  have hP : va_P (dC, dI) vwCl [] H := hP
  have hD : va_D A [] := hD
  obtain rfl : r_1688 = (-1) := hw
  refine lv_icmp_eq (tgt := 1165) hx hb dL_law_543 (by decide) (fun c_0 => ?_) (fun c_0 => absurd c_0 (by decide))
  exact law_tail C1 hS (lv_sub hl [0, 3] rfl)
set_option maxHeartbeats 4000000 in
set_option maxRecDepth 100000 in
theorem law_c12 {p : Program} {l : Launch} {e : Env} {s : State} {m : MethodId} {below : List Frame} {meth : Method} {c : Code} {b : Nat} {xs : Nat → Int32} {A : Nat → Prop} {H : Heap} {locs : List Loc} {ls : Array Slot} {dC : Nat → ClassId} {dI : Nat → Nat → Nat} {r : Nat → Nat} {k : Nat → ClassId} {rm : Nat → Nat} {km : Nat → ClassId} (C1 : lw_C p s m meth c b 6 xs A) (hP : va_P (dC, dI) vwCl (wd_897 r k rm km) H) (hD : va_D A (wd_897 r k rm km)) (hK : va_K (dC, dI) vwCl [((k 0), .int), ((k 1), .int), ((k 2), .int), ((km 0), .int), ((km 1), .int), ((km 2), .int), ((km 3), .int)] s) (hS : va_S A s.heap H locs) (hl : lv_has ls 4 [(3, .int 0), (2, .ref (rm 0)), (1, .ref (r 0)), (0, .ref b)]) : W p l e room_1 s m #[Value.ref b] below meth c H locs 179 95325 (lw_Z below #[Value.ref b] s) (F0 m 548 ls []) := by
  obtain ⟨hx, hb, hr, hml, hown, hts, hlocks, hX, hbl, hA, hAl, hbA⟩ := id C1
  refine lv_aload_n hx hb dL_law_548 rfl (lv_at hl 2 rfl) ?_
  refine lv_aload_n hx hb dL_law_549 rfl (lv_at hl 3 rfl) ?_
  refine lv_iload_n hx hb dL_law_550 rfl (lv_at hl 0 rfl) ?_
  refine lv_iconst (v := 1) hx hb dL_law_551 (by decide) ?_
  refine lv_iadd hx hb dL_law_552 ?_
  refine lv_topi (fun x_1689 ex_1689 => ?_)
  obtain rfl : x_1689 = 1 := ex_1689.trans (by decide)
  refine va_sld hx hb hX hbl hbA hS (vpi (by decide)) dL_law_553 ?_
  refine lv_topi (fun x_1690 ex_1690 => ?_)
  obtain rfl : x_1690 = xs 1 := ex_1690
  refine lv_aload_n hx hb dL_law_554 rfl (lv_at hl 3 rfl) ?_
  refine lv_iload_n hx hb dL_law_555 rfl (lv_at hl 0 rfl) ?_
  refine lv_iconst (v := 2) hx hb dL_law_556 (by decide) ?_
  refine lv_iadd hx hb dL_law_557 ?_
  refine lv_topi (fun x_1691 ex_1691 => ?_)
  obtain rfl : x_1691 = 2 := ex_1691.trans (by decide)
  refine va_sld hx hb hX hbl hbA hS (vpi (by decide)) dL_law_558 ?_
  refine lv_topi (fun x_1692 ex_1692 => ?_)
  obtain rfl : x_1692 = xs 2 := ex_1692
  have hPc := hP.sub (ws' := (wd_495 r k)) [0, 1, 2, 3, 4, 5, 6, 7, 8, 9, 10, 11, 12, 13] rfl
  have hDc := hD.sub (ws' := (wd_495 r k)) [0, 1, 2, 3, 4, 5, 6, 7, 8, 9, 10, 11, 12, 13] (by decide) rfl
  have hKc := hK.sub (tys' := [((k 0), .int), ((k 1), .int), ((k 2), .int)]) [0, 1, 2] rfl
  have hFc := va_free (wc := (wd_495 r k)) hD hS hA [0, 1, 2, 3, 4, 5, 6, 7, 8, 9, 10, 11, 12, 13] rfl
  refine va_calli (va_runV (As := [.int (xs 1), .int (xs 2)]) (rest := []) ⟨hx, hb, hml, hown, hts⟩ (mX11_block l dC dI r k (xs 1) (xs 2) H.size) (cwV 2 hts (gV q_572 q_573 q_574 q_257 q_327) rfl rfl rfl mdv_yX11_block ⟨Nat.le_of_ble_eq_true rfl, Nat.le_of_ble_eq_true rfl⟩) ⟨fun a U g mk q => by obtain ⟨q0, q1, qP, qK, qD⟩ := q; exact ⟨q0, q1, qP, va_K.moved (u := U) (U := U.calling g mk a) (Vm.Alike.refl U.vm) qK, qD⟩, va_recv hKc hPc (ci := 11) (q0 := 0) rfl rfl, fun U hU hW => ⟨rfl, by rw [hU], by rw [hU]; exact hPc, va_K.moved hW.alike hKc, hDc.weaken (fun _ _ _ _ => trivial)⟩⟩ rfl rfl hl.1 rfl (lv_room (Nat.le_of_ble_eq_true rfl)) dL_law_559 ⟨Nat.le_of_ble_eq_true rfl, Nat.le_of_ble_eq_true rfl⟩) hS (fun q _ h => hFc q h) hFc (fun r_1693 u t H1 locs ht hvm hw hB hz1 hk1 hS => ?_)
  have hP1 : va_P (dC, dI) vwCl [] H1 := fun k q h => by simp at h
  have hD1 : va_D (va_A (wd_495 r k) H.size) [] := ⟨fun i j p q h => by simp at h, fun k q h => by simp at h⟩
  obtain ⟨hP, hD⟩ := va_join (wr := (wd_758 rm km)) (w1 := []) hP hD [0, 1, 2, 3, 4, 5, 6, 7, 8, 9, 10, 11, 12, 13] [14, 15, 16, 17, 18] rfl rfl (by decide) (by decide) hk1 hFc hP1 hD1
  generalize H1 = H at hP hS ⊢
  have hP : va_P (dC, dI) vwCl (wd_758 rm km) H := hP
  have hD : va_D A (wd_758 rm km) := hD
  obtain rfl : r_1693 = (-1) := hw
  refine lv_aload_n hx hb dL_law_562 rfl (lv_at hl 1 rfl) ?_
  refine lv_aload_n hx hb dL_law_563 rfl (lv_at hl 3 rfl) ?_
  refine lv_iload_n hx hb dL_law_564 rfl (lv_at hl 0 rfl) ?_
  refine lv_iconst (v := 1) hx hb dL_law_565 (by decide) ?_
  refine lv_iadd hx hb dL_law_566 ?_
  refine lv_topi (fun x_1694 ex_1694 => ?_)
  obtain rfl : x_1694 = 1 := ex_1694.trans (by decide)
  refine va_sld hx hb hX hbl hbA hS (vpi (by decide)) dL_law_567 ?_
  refine lv_topi (fun x_1695 ex_1695 => ?_)
  obtain rfl : x_1695 = xs 1 := ex_1695
  refine lv_aload_n hx hb dL_law_568 rfl (lv_at hl 3 rfl) ?_
  refine lv_iload_n hx hb dL_law_569 rfl (lv_at hl 0 rfl) ?_
  refine lv_iconst (v := 2) hx hb dL_law_570 (by decide) ?_
  refine lv_iadd hx hb dL_law_571 ?_
  refine lv_topi (fun x_1696 ex_1696 => ?_)
  obtain rfl : x_1696 = 2 := ex_1696.trans (by decide)
  refine va_sld hx hb hX hbl hbA hS (vpi (by decide)) dL_law_572 ?_
  refine lv_topi (fun x_1697 ex_1697 => ?_)
  obtain rfl : x_1697 = xs 2 := ex_1697
  have hPc := hP.sub (ws' := (wd_758 rm km)) [0, 1, 2, 3, 4] rfl
  have hDc := hD.sub (ws' := (wd_758 rm km)) [0, 1, 2, 3, 4] (by decide) rfl
  have hKc := hK.sub (tys' := [((km 0), .int), ((km 1), .int), ((km 2), .int), ((km 3), .int)]) [3, 4, 5, 6] rfl
  have hFc := va_free (wc := (wd_758 rm km)) hD hS hA [0, 1, 2, 3, 4] rfl
  refine va_calli (va_runV (As := [.int (xs 1), .int (xs 2)]) (rest := [.int (-1)]) ⟨hx, hb, hml, hown, hts⟩ (mX12_block l dC dI rm km (xs 1) (xs 2) H.size) (cwV 2 hts (gV q_575 q_576 q_577 q_372 q_460) rfl rfl rfl mdv_yX12_block ⟨Nat.le_of_ble_eq_true rfl, Nat.le_of_ble_eq_true rfl⟩) ⟨fun a U g mk q => by obtain ⟨q0, q1, qP, qK, qD⟩ := q; exact ⟨q0, q1, qP, va_K.moved (u := U) (U := U.calling g mk a) (Vm.Alike.refl U.vm) qK, qD⟩, va_recv hKc hPc (ci := 12) (q0 := 0) rfl rfl, fun U hU hW => ⟨rfl, by rw [hU], by rw [hU]; exact hPc, va_K.moved hW.alike hKc, hDc.weaken (fun _ _ _ _ => trivial)⟩⟩ rfl rfl hl.1 rfl (lv_room (Nat.le_of_ble_eq_true rfl)) dL_law_573 ⟨Nat.le_of_ble_eq_true rfl, Nat.le_of_ble_eq_true rfl⟩) hS (fun q _ h => hFc q h) hFc (fun r_1698 u t H1 locs ht hvm hw hB hz1 hk1 hS => ?_)
  have hP1 : va_P (dC, dI) vwCl [] H1 := fun k q h => by simp at h
  have hD1 : va_D (va_A (wd_758 rm km) H.size) [] := ⟨fun i j p q h => by simp at h, fun k q h => by simp at h⟩
  obtain ⟨hP, hD⟩ := va_join (wr := []) (w1 := []) hP hD [0, 1, 2, 3, 4] [] rfl rfl (by decide) (by decide) hk1 hFc hP1 hD1
  generalize H1 = H at hP hS ⊢
  have hP : va_P (dC, dI) vwCl [] H := hP
  have hD : va_D A [] := hD
  obtain rfl : r_1698 = (-1) := hw
  refine lv_icmp_eq (tgt := 1165) hx hb dL_law_576 (by decide) (fun c_0 => ?_) (fun c_0 => absurd c_0 (by decide))
  exact law_tail C1 hS (lv_sub hl [0, 3] rfl)
set_option maxHeartbeats 4000000 in
set_option maxRecDepth 100000 in
theorem law_c13 {p : Program} {l : Launch} {e : Env} {s : State} {m : MethodId} {below : List Frame} {meth : Method} {c : Code} {b : Nat} {xs : Nat → Int32} {A : Nat → Prop} {H : Heap} {locs : List Loc} {ls : Array Slot} {dC : Nat → ClassId} {dI : Nat → Nat → Nat} {r : Nat → Nat} {k : Nat → ClassId} {rm : Nat → Nat} {km : Nat → ClassId} (C1 : lw_C p s m meth c b 6 xs A) (hP : va_P (dC, dI) vwCl (wd_897 r k rm km) H) (hD : va_D A (wd_897 r k rm km)) (hK : va_K (dC, dI) vwCl [((k 0), .int), ((k 1), .int), ((k 2), .int), ((km 0), .int), ((km 1), .int), ((km 2), .int), ((km 3), .int)] s) (hS : va_S A s.heap H locs) (hl : lv_has ls 4 [(3, .int 0), (2, .ref (rm 0)), (1, .ref (r 0)), (0, .ref b)]) : W p l e room_1 s m #[Value.ref b] below meth c H locs 179 95325 (lw_Z below #[Value.ref b] s) (F0 m 581 ls []) := by
  obtain ⟨hx, hb, hr, hml, hown, hts, hlocks, hX, hbl, hA, hAl, hbA⟩ := id C1
  refine lv_aload_n hx hb dL_law_581 rfl (lv_at hl 2 rfl) ?_
  refine lv_aload_n hx hb dL_law_582 rfl (lv_at hl 3 rfl) ?_
  refine lv_iload_n hx hb dL_law_583 rfl (lv_at hl 0 rfl) ?_
  refine lv_iconst (v := 1) hx hb dL_law_584 (by decide) ?_
  refine lv_iadd hx hb dL_law_585 ?_
  refine lv_topi (fun x_1699 ex_1699 => ?_)
  obtain rfl : x_1699 = 1 := ex_1699.trans (by decide)
  refine va_sld hx hb hX hbl hbA hS (vpi (by decide)) dL_law_586 ?_
  refine lv_topi (fun x_1700 ex_1700 => ?_)
  obtain rfl : x_1700 = xs 1 := ex_1700
  refine lv_aload_n hx hb dL_law_587 rfl (lv_at hl 3 rfl) ?_
  refine lv_iload_n hx hb dL_law_588 rfl (lv_at hl 0 rfl) ?_
  refine lv_iconst (v := 2) hx hb dL_law_589 (by decide) ?_
  refine lv_iadd hx hb dL_law_590 ?_
  refine lv_topi (fun x_1701 ex_1701 => ?_)
  obtain rfl : x_1701 = 2 := ex_1701.trans (by decide)
  refine va_sld hx hb hX hbl hbA hS (vpi (by decide)) dL_law_591 ?_
  refine lv_topi (fun x_1702 ex_1702 => ?_)
  obtain rfl : x_1702 = xs 2 := ex_1702
  have hPc := hP.sub (ws' := (wd_495 r k)) [0, 1, 2, 3, 4, 5, 6, 7, 8, 9, 10, 11, 12, 13] rfl
  have hDc := hD.sub (ws' := (wd_495 r k)) [0, 1, 2, 3, 4, 5, 6, 7, 8, 9, 10, 11, 12, 13] (by decide) rfl
  have hKc := hK.sub (tys' := [((k 0), .int), ((k 1), .int), ((k 2), .int)]) [0, 1, 2] rfl
  have hFc := va_free (wc := (wd_495 r k)) hD hS hA [0, 1, 2, 3, 4, 5, 6, 7, 8, 9, 10, 11, 12, 13] rfl
  refine va_calli (va_runV (As := [.int (xs 1), .int (xs 2)]) (rest := []) ⟨hx, hb, hml, hown, hts⟩ (mX11_chain l dC dI r k (xs 1) (xs 2) H.size) (cwV 2 hts (gV q_578 q_579 q_580 q_257 q_328) rfl rfl rfl mdv_yX11_chain ⟨Nat.le_of_ble_eq_true rfl, Nat.le_of_ble_eq_true rfl⟩) ⟨fun a U g mk q => by obtain ⟨q0, q1, qP, qK, qD⟩ := q; exact ⟨q0, q1, qP, va_K.moved (u := U) (U := U.calling g mk a) (Vm.Alike.refl U.vm) qK, qD⟩, va_recv hKc hPc (ci := 11) (q0 := 0) rfl rfl, fun U hU hW => ⟨rfl, by rw [hU], by rw [hU]; exact hPc, va_K.moved hW.alike hKc, hDc.weaken (fun _ _ _ _ => trivial)⟩⟩ rfl rfl hl.1 rfl (lv_room (Nat.le_of_ble_eq_true rfl)) dL_law_592 ⟨Nat.le_of_ble_eq_true rfl, Nat.le_of_ble_eq_true rfl⟩) hS (fun q _ h => hFc q h) hFc (fun r_1703 u t H1 locs ht hvm hw hB hz1 hk1 hS => ?_)
  have hP1 : va_P (dC, dI) vwCl [] H1 := fun k q h => by simp at h
  have hD1 : va_D (va_A (wd_495 r k) H.size) [] := ⟨fun i j p q h => by simp at h, fun k q h => by simp at h⟩
  obtain ⟨hP, hD⟩ := va_join (wr := (wd_758 rm km)) (w1 := []) hP hD [0, 1, 2, 3, 4, 5, 6, 7, 8, 9, 10, 11, 12, 13] [14, 15, 16, 17, 18] rfl rfl (by decide) (by decide) hk1 hFc hP1 hD1
  generalize H1 = H at hP hS ⊢
  have hP : va_P (dC, dI) vwCl (wd_758 rm km) H := hP
  have hD : va_D A (wd_758 rm km) := hD
  obtain rfl : r_1703 = (-1) := hw
  refine lv_aload_n hx hb dL_law_595 rfl (lv_at hl 1 rfl) ?_
  refine lv_aload_n hx hb dL_law_596 rfl (lv_at hl 3 rfl) ?_
  refine lv_iload_n hx hb dL_law_597 rfl (lv_at hl 0 rfl) ?_
  refine lv_iconst (v := 1) hx hb dL_law_598 (by decide) ?_
  refine lv_iadd hx hb dL_law_599 ?_
  refine lv_topi (fun x_1704 ex_1704 => ?_)
  obtain rfl : x_1704 = 1 := ex_1704.trans (by decide)
  refine va_sld hx hb hX hbl hbA hS (vpi (by decide)) dL_law_600 ?_
  refine lv_topi (fun x_1705 ex_1705 => ?_)
  obtain rfl : x_1705 = xs 1 := ex_1705
  refine lv_aload_n hx hb dL_law_601 rfl (lv_at hl 3 rfl) ?_
  refine lv_iload_n hx hb dL_law_602 rfl (lv_at hl 0 rfl) ?_
  refine lv_iconst (v := 2) hx hb dL_law_603 (by decide) ?_
  refine lv_iadd hx hb dL_law_604 ?_
  refine lv_topi (fun x_1706 ex_1706 => ?_)
  obtain rfl : x_1706 = 2 := ex_1706.trans (by decide)
  refine va_sld hx hb hX hbl hbA hS (vpi (by decide)) dL_law_605 ?_
  refine lv_topi (fun x_1707 ex_1707 => ?_)
  obtain rfl : x_1707 = xs 2 := ex_1707
  have hPc := hP.sub (ws' := (wd_758 rm km)) [0, 1, 2, 3, 4] rfl
  have hDc := hD.sub (ws' := (wd_758 rm km)) [0, 1, 2, 3, 4] (by decide) rfl
  have hKc := hK.sub (tys' := [((km 0), .int), ((km 1), .int), ((km 2), .int), ((km 3), .int)]) [3, 4, 5, 6] rfl
  have hFc := va_free (wc := (wd_758 rm km)) hD hS hA [0, 1, 2, 3, 4] rfl
  refine va_calli (va_runV (As := [.int (xs 1), .int (xs 2)]) (rest := [.int (-1)]) ⟨hx, hb, hml, hown, hts⟩ (mX12_chain l dC dI rm km (xs 1) (xs 2) H.size) (cwV 2 hts (gV q_581 q_582 q_583 q_372 q_461) rfl rfl rfl mdv_yX12_chain ⟨Nat.le_of_ble_eq_true rfl, Nat.le_of_ble_eq_true rfl⟩) ⟨fun a U g mk q => by obtain ⟨q0, q1, qP, qK, qD⟩ := q; exact ⟨q0, q1, qP, va_K.moved (u := U) (U := U.calling g mk a) (Vm.Alike.refl U.vm) qK, qD⟩, va_recv hKc hPc (ci := 12) (q0 := 0) rfl rfl, fun U hU hW => ⟨rfl, by rw [hU], by rw [hU]; exact hPc, va_K.moved hW.alike hKc, hDc.weaken (fun _ _ _ _ => trivial)⟩⟩ rfl rfl hl.1 rfl (lv_room (Nat.le_of_ble_eq_true rfl)) dL_law_606 ⟨Nat.le_of_ble_eq_true rfl, Nat.le_of_ble_eq_true rfl⟩) hS (fun q _ h => hFc q h) hFc (fun r_1708 u t H1 locs ht hvm hw hB hz1 hk1 hS => ?_)
  have hP1 : va_P (dC, dI) vwCl [] H1 := fun k q h => by simp at h
  have hD1 : va_D (va_A (wd_758 rm km) H.size) [] := ⟨fun i j p q h => by simp at h, fun k q h => by simp at h⟩
  obtain ⟨hP, hD⟩ := va_join (wr := []) (w1 := []) hP hD [0, 1, 2, 3, 4] [] rfl rfl (by decide) (by decide) hk1 hFc hP1 hD1
  generalize H1 = H at hP hS ⊢
  have hP : va_P (dC, dI) vwCl [] H := hP
  have hD : va_D A [] := hD
  obtain rfl : r_1708 = (-1) := hw
  refine lv_icmp_eq (tgt := 1165) hx hb dL_law_609 (by decide) (fun c_0 => ?_) (fun c_0 => absurd c_0 (by decide))
  exact law_tail C1 hS (lv_sub hl [0, 3] rfl)
set_option maxHeartbeats 4000000 in
set_option maxRecDepth 100000 in
theorem law_c14 {p : Program} {l : Launch} {e : Env} {s : State} {m : MethodId} {below : List Frame} {meth : Method} {c : Code} {b : Nat} {xs : Nat → Int32} {A : Nat → Prop} {H : Heap} {locs : List Loc} {ls : Array Slot} {dC : Nat → ClassId} {dI : Nat → Nat → Nat} {r : Nat → Nat} {k : Nat → ClassId} {rm : Nat → Nat} {km : Nat → ClassId} (C1 : lw_C p s m meth c b 6 xs A) (hP : va_P (dC, dI) vwCl (wd_897 r k rm km) H) (hD : va_D A (wd_897 r k rm km)) (hK : va_K (dC, dI) vwCl [((k 0), .int), ((k 1), .int), ((k 2), .int), ((km 0), .int), ((km 1), .int), ((km 2), .int), ((km 3), .int)] s) (hS : va_S A s.heap H locs) (hl : lv_has ls 4 [(3, .int 0), (2, .ref (rm 0)), (1, .ref (r 0)), (0, .ref b)]) : W p l e room_1 s m #[Value.ref b] below meth c H locs 179 95325 (lw_Z below #[Value.ref b] s) (F0 m 614 ls []) := by
  obtain ⟨hx, hb, hr, hml, hown, hts, hlocks, hX, hbl, hA, hAl, hbA⟩ := id C1
  refine lv_aload_n hx hb dL_law_614 rfl (lv_at hl 2 rfl) ?_
  refine lv_aload_n hx hb dL_law_615 rfl (lv_at hl 3 rfl) ?_
  refine lv_iload_n hx hb dL_law_616 rfl (lv_at hl 0 rfl) ?_
  refine lv_iconst (v := 1) hx hb dL_law_617 (by decide) ?_
  refine lv_iadd hx hb dL_law_618 ?_
  refine lv_topi (fun x_1709 ex_1709 => ?_)
  obtain rfl : x_1709 = 1 := ex_1709.trans (by decide)
  refine va_sld hx hb hX hbl hbA hS (vpi (by decide)) dL_law_619 ?_
  refine lv_topi (fun x_1710 ex_1710 => ?_)
  obtain rfl : x_1710 = xs 1 := ex_1710
  have hPc := hP.sub (ws' := (wd_495 r k)) [0, 1, 2, 3, 4, 5, 6, 7, 8, 9, 10, 11, 12, 13] rfl
  have hDc := hD.sub (ws' := (wd_495 r k)) [0, 1, 2, 3, 4, 5, 6, 7, 8, 9, 10, 11, 12, 13] (by decide) rfl
  have hKc := hK.sub (tys' := [((k 0), .int), ((k 1), .int), ((k 2), .int)]) [0, 1, 2] rfl
  have hFc := va_free (wc := (wd_495 r k)) hD hS hA [0, 1, 2, 3, 4, 5, 6, 7, 8, 9, 10, 11, 12, 13] rfl
  refine va_calli (va_runV (As := [.int (xs 1)]) (rest := []) ⟨hx, hb, hml, hown, hts⟩ (mX11_longest l dC dI r k (xs 1) H.size) (cwV 1 hts (gV q_584 q_585 q_586 q_257 q_333) rfl rfl rfl mdv_yX11_longest ⟨Nat.le_of_ble_eq_true rfl, Nat.le_of_ble_eq_true rfl⟩) ⟨fun a U g mk q => by obtain ⟨q0, q1, qP, qK, qD⟩ := q; exact ⟨q0, q1, qP, va_K.moved (u := U) (U := U.calling g mk a) (Vm.Alike.refl U.vm) qK, qD⟩, va_recv hKc hPc (ci := 11) (q0 := 0) rfl rfl, fun U hU hW => ⟨rfl, by rw [hU], by rw [hU]; exact hPc, va_K.moved hW.alike hKc, hDc.weaken (fun _ _ _ _ => trivial)⟩⟩ rfl rfl hl.1 rfl (lv_room (Nat.le_of_ble_eq_true rfl)) dL_law_620 ⟨Nat.le_of_ble_eq_true rfl, Nat.le_of_ble_eq_true rfl⟩) hS (fun q _ h => hFc q h) hFc (fun r_1711 u t H1 locs ht hvm hw hB hz1 hk1 hS => ?_)
  have hP1 : va_P (dC, dI) vwCl [] H1 := fun k q h => by simp at h
  have hD1 : va_D (va_A (wd_495 r k) H.size) [] := ⟨fun i j p q h => by simp at h, fun k q h => by simp at h⟩
  obtain ⟨hP, hD⟩ := va_join (wr := (wd_758 rm km)) (w1 := []) hP hD [0, 1, 2, 3, 4, 5, 6, 7, 8, 9, 10, 11, 12, 13] [14, 15, 16, 17, 18] rfl rfl (by decide) (by decide) hk1 hFc hP1 hD1
  generalize H1 = H at hP hS ⊢
  have hP : va_P (dC, dI) vwCl (wd_758 rm km) H := hP
  have hD : va_D A (wd_758 rm km) := hD
  obtain rfl : r_1711 = (-1) := hw
  refine lv_aload_n hx hb dL_law_623 rfl (lv_at hl 1 rfl) ?_
  refine lv_aload_n hx hb dL_law_624 rfl (lv_at hl 3 rfl) ?_
  refine lv_iload_n hx hb dL_law_625 rfl (lv_at hl 0 rfl) ?_
  refine lv_iconst (v := 1) hx hb dL_law_626 (by decide) ?_
  refine lv_iadd hx hb dL_law_627 ?_
  refine lv_topi (fun x_1712 ex_1712 => ?_)
  obtain rfl : x_1712 = 1 := ex_1712.trans (by decide)
  refine va_sld hx hb hX hbl hbA hS (vpi (by decide)) dL_law_628 ?_
  refine lv_topi (fun x_1713 ex_1713 => ?_)
  obtain rfl : x_1713 = xs 1 := ex_1713
  have hPc := hP.sub (ws' := (wd_758 rm km)) [0, 1, 2, 3, 4] rfl
  have hDc := hD.sub (ws' := (wd_758 rm km)) [0, 1, 2, 3, 4] (by decide) rfl
  have hKc := hK.sub (tys' := [((km 0), .int), ((km 1), .int), ((km 2), .int), ((km 3), .int)]) [3, 4, 5, 6] rfl
  have hFc := va_free (wc := (wd_758 rm km)) hD hS hA [0, 1, 2, 3, 4] rfl
  refine va_calli (va_runV (As := [.int (xs 1)]) (rest := [.int (-1)]) ⟨hx, hb, hml, hown, hts⟩ (mX12_longest l dC dI rm km (xs 1) H.size) (cwV 1 hts (gV q_587 q_588 q_589 q_372 q_462) rfl rfl rfl mdv_yX12_longest ⟨Nat.le_of_ble_eq_true rfl, Nat.le_of_ble_eq_true rfl⟩) ⟨fun a U g mk q => by obtain ⟨q0, q1, qP, qK, qD⟩ := q; exact ⟨q0, q1, qP, va_K.moved (u := U) (U := U.calling g mk a) (Vm.Alike.refl U.vm) qK, qD⟩, va_recv hKc hPc (ci := 12) (q0 := 0) rfl rfl, fun U hU hW => ⟨rfl, by rw [hU], by rw [hU]; exact hPc, va_K.moved hW.alike hKc, hDc.weaken (fun _ _ _ _ => trivial)⟩⟩ rfl rfl hl.1 rfl (lv_room (Nat.le_of_ble_eq_true rfl)) dL_law_629 ⟨Nat.le_of_ble_eq_true rfl, Nat.le_of_ble_eq_true rfl⟩) hS (fun q _ h => hFc q h) hFc (fun r_1714 u t H1 locs ht hvm hw hB hz1 hk1 hS => ?_)
  have hP1 : va_P (dC, dI) vwCl [] H1 := fun k q h => by simp at h
  have hD1 : va_D (va_A (wd_758 rm km) H.size) [] := ⟨fun i j p q h => by simp at h, fun k q h => by simp at h⟩
  obtain ⟨hP, hD⟩ := va_join (wr := []) (w1 := []) hP hD [0, 1, 2, 3, 4] [] rfl rfl (by decide) (by decide) hk1 hFc hP1 hD1
  generalize H1 = H at hP hS ⊢
  have hP : va_P (dC, dI) vwCl [] H := hP
  have hD : va_D A [] := hD
  obtain rfl : r_1714 = (-1) := hw
  refine lv_icmp_eq (tgt := 1165) hx hb dL_law_632 (by decide) (fun c_0 => ?_) (fun c_0 => absurd c_0 (by decide))
  exact law_tail C1 hS (lv_sub hl [0, 3] rfl)
set_option maxHeartbeats 4000000 in
set_option maxRecDepth 100000 in
theorem law_c15 {p : Program} {l : Launch} {e : Env} {s : State} {m : MethodId} {below : List Frame} {meth : Method} {c : Code} {b : Nat} {xs : Nat → Int32} {A : Nat → Prop} {H : Heap} {locs : List Loc} {ls : Array Slot} {dC : Nat → ClassId} {dI : Nat → Nat → Nat} {r : Nat → Nat} {k : Nat → ClassId} {rm : Nat → Nat} {km : Nat → ClassId} (C1 : lw_C p s m meth c b 6 xs A) (hP : va_P (dC, dI) vwCl (wd_897 r k rm km) H) (hD : va_D A (wd_897 r k rm km)) (hK : va_K (dC, dI) vwCl [((k 0), .int), ((k 1), .int), ((k 2), .int), ((km 0), .int), ((km 1), .int), ((km 2), .int), ((km 3), .int)] s) (hS : va_S A s.heap H locs) (hl : lv_has ls 4 [(3, .int 0), (2, .ref (rm 0)), (1, .ref (r 0)), (0, .ref b)]) : W p l e room_1 s m #[Value.ref b] below meth c H locs 179 95325 (lw_Z below #[Value.ref b] s) (F0 m 637 ls []) := by
  obtain ⟨hx, hb, hr, hml, hown, hts, hlocks, hX, hbl, hA, hAl, hbA⟩ := id C1
  refine lv_aload_n hx hb dL_law_637 rfl (lv_at hl 2 rfl) ?_
  refine lv_aload_n hx hb dL_law_638 rfl (lv_at hl 3 rfl) ?_
  refine lv_iload_n hx hb dL_law_639 rfl (lv_at hl 0 rfl) ?_
  refine lv_iconst (v := 1) hx hb dL_law_640 (by decide) ?_
  refine lv_iadd hx hb dL_law_641 ?_
  refine lv_topi (fun x_1715 ex_1715 => ?_)
  obtain rfl : x_1715 = 1 := ex_1715.trans (by decide)
  refine va_sld hx hb hX hbl hbA hS (vpi (by decide)) dL_law_642 ?_
  refine lv_topi (fun x_1716 ex_1716 => ?_)
  obtain rfl : x_1716 = xs 1 := ex_1716
  have hPc := hP.sub (ws' := (wd_495 r k)) [0, 1, 2, 3, 4, 5, 6, 7, 8, 9, 10, 11, 12, 13] rfl
  have hDc := hD.sub (ws' := (wd_495 r k)) [0, 1, 2, 3, 4, 5, 6, 7, 8, 9, 10, 11, 12, 13] (by decide) rfl
  have hKc := hK.sub (tys' := [((k 0), .int), ((k 1), .int), ((k 2), .int)]) [0, 1, 2] rfl
  have hFc := va_free (wc := (wd_495 r k)) hD hS hA [0, 1, 2, 3, 4, 5, 6, 7, 8, 9, 10, 11, 12, 13] rfl
  refine va_calli (va_runV (As := [.int (xs 1)]) (rest := []) ⟨hx, hb, hml, hown, hts⟩ (mX11_steps l dC dI r k (xs 1) H.size) (cwV 1 hts (gV q_590 q_591 q_592 q_257 q_334) rfl rfl rfl mdv_yX11_steps ⟨Nat.le_of_ble_eq_true rfl, Nat.le_of_ble_eq_true rfl⟩) ⟨fun a U g mk q => by obtain ⟨q0, q1, qP, qK, qD⟩ := q; exact ⟨q0, q1, qP, va_K.moved (u := U) (U := U.calling g mk a) (Vm.Alike.refl U.vm) qK, qD⟩, va_recv hKc hPc (ci := 11) (q0 := 0) rfl rfl, fun U hU hW => ⟨rfl, by rw [hU], by rw [hU]; exact hPc, va_K.moved hW.alike hKc, hDc.weaken (fun _ _ _ _ => trivial)⟩⟩ rfl rfl hl.1 rfl (lv_room (Nat.le_of_ble_eq_true rfl)) dL_law_643 ⟨Nat.le_of_ble_eq_true rfl, Nat.le_of_ble_eq_true rfl⟩) hS (fun q _ h => hFc q h) hFc (fun r_1717 u t H1 locs ht hvm hw hB hz1 hk1 hS => ?_)
  have hP1 : va_P (dC, dI) vwCl [] H1 := fun k q h => by simp at h
  have hD1 : va_D (va_A (wd_495 r k) H.size) [] := ⟨fun i j p q h => by simp at h, fun k q h => by simp at h⟩
  obtain ⟨hP, hD⟩ := va_join (wr := (wd_758 rm km)) (w1 := []) hP hD [0, 1, 2, 3, 4, 5, 6, 7, 8, 9, 10, 11, 12, 13] [14, 15, 16, 17, 18] rfl rfl (by decide) (by decide) hk1 hFc hP1 hD1
  generalize H1 = H at hP hS ⊢
  have hP : va_P (dC, dI) vwCl (wd_758 rm km) H := hP
  have hD : va_D A (wd_758 rm km) := hD
  obtain rfl : r_1717 = (-1) := hw
  refine lv_aload_n hx hb dL_law_646 rfl (lv_at hl 1 rfl) ?_
  refine lv_aload_n hx hb dL_law_647 rfl (lv_at hl 3 rfl) ?_
  refine lv_iload_n hx hb dL_law_648 rfl (lv_at hl 0 rfl) ?_
  refine lv_iconst (v := 1) hx hb dL_law_649 (by decide) ?_
  refine lv_iadd hx hb dL_law_650 ?_
  refine lv_topi (fun x_1718 ex_1718 => ?_)
  obtain rfl : x_1718 = 1 := ex_1718.trans (by decide)
  refine va_sld hx hb hX hbl hbA hS (vpi (by decide)) dL_law_651 ?_
  refine lv_topi (fun x_1719 ex_1719 => ?_)
  obtain rfl : x_1719 = xs 1 := ex_1719
  have hPc := hP.sub (ws' := (wd_758 rm km)) [0, 1, 2, 3, 4] rfl
  have hDc := hD.sub (ws' := (wd_758 rm km)) [0, 1, 2, 3, 4] (by decide) rfl
  have hKc := hK.sub (tys' := [((km 0), .int), ((km 1), .int), ((km 2), .int), ((km 3), .int)]) [3, 4, 5, 6] rfl
  have hFc := va_free (wc := (wd_758 rm km)) hD hS hA [0, 1, 2, 3, 4] rfl
  refine va_calli (va_runV (As := [.int (xs 1)]) (rest := [.int (-1)]) ⟨hx, hb, hml, hown, hts⟩ (mX12_steps l dC dI rm km (xs 1) H.size) (cwV 1 hts (gV q_593 q_594 q_595 q_372 q_463) rfl rfl rfl mdv_yX12_steps ⟨Nat.le_of_ble_eq_true rfl, Nat.le_of_ble_eq_true rfl⟩) ⟨fun a U g mk q => by obtain ⟨q0, q1, qP, qK, qD⟩ := q; exact ⟨q0, q1, qP, va_K.moved (u := U) (U := U.calling g mk a) (Vm.Alike.refl U.vm) qK, qD⟩, va_recv hKc hPc (ci := 12) (q0 := 0) rfl rfl, fun U hU hW => ⟨rfl, by rw [hU], by rw [hU]; exact hPc, va_K.moved hW.alike hKc, hDc.weaken (fun _ _ _ _ => trivial)⟩⟩ rfl rfl hl.1 rfl (lv_room (Nat.le_of_ble_eq_true rfl)) dL_law_652 ⟨Nat.le_of_ble_eq_true rfl, Nat.le_of_ble_eq_true rfl⟩) hS (fun q _ h => hFc q h) hFc (fun r_1720 u t H1 locs ht hvm hw hB hz1 hk1 hS => ?_)
  have hP1 : va_P (dC, dI) vwCl [] H1 := fun k q h => by simp at h
  have hD1 : va_D (va_A (wd_758 rm km) H.size) [] := ⟨fun i j p q h => by simp at h, fun k q h => by simp at h⟩
  obtain ⟨hP, hD⟩ := va_join (wr := []) (w1 := []) hP hD [0, 1, 2, 3, 4] [] rfl rfl (by decide) (by decide) hk1 hFc hP1 hD1
  generalize H1 = H at hP hS ⊢
  have hP : va_P (dC, dI) vwCl [] H := hP
  have hD : va_D A [] := hD
  obtain rfl : r_1720 = (-1) := hw
  refine lv_icmp_eq (tgt := 1165) hx hb dL_law_655 (by decide) (fun c_0 => ?_) (fun c_0 => absurd c_0 (by decide))
  exact law_tail C1 hS (lv_sub hl [0, 3] rfl)
set_option maxHeartbeats 4000000 in
set_option maxRecDepth 100000 in
theorem law_c16 {p : Program} {l : Launch} {e : Env} {s : State} {m : MethodId} {below : List Frame} {meth : Method} {c : Code} {b : Nat} {xs : Nat → Int32} {A : Nat → Prop} {H : Heap} {locs : List Loc} {ls : Array Slot} {dC : Nat → ClassId} {dI : Nat → Nat → Nat} {r : Nat → Nat} {k : Nat → ClassId} {rm : Nat → Nat} {km : Nat → ClassId} (C1 : lw_C p s m meth c b 6 xs A) (hP : va_P (dC, dI) vwCl (wd_897 r k rm km) H) (hD : va_D A (wd_897 r k rm km)) (hK : va_K (dC, dI) vwCl [((k 0), .int), ((k 1), .int), ((k 2), .int), ((km 0), .int), ((km 1), .int), ((km 2), .int), ((km 3), .int)] s) (hS : va_S A s.heap H locs) (hl : lv_has ls 4 [(3, .int 0), (2, .ref (rm 0)), (1, .ref (r 0)), (0, .ref b)]) : W p l e room_1 s m #[Value.ref b] below meth c H locs 179 95325 (lw_Z below #[Value.ref b] s) (F0 m 660 ls []) := by
  obtain ⟨hx, hb, hr, hml, hown, hts, hlocks, hX, hbl, hA, hAl, hbA⟩ := id C1
  refine lv_aload_n hx hb dL_law_660 rfl (lv_at hl 2 rfl) ?_
  refine lv_aload_n hx hb dL_law_661 rfl (lv_at hl 3 rfl) ?_
  refine lv_iload_n hx hb dL_law_662 rfl (lv_at hl 0 rfl) ?_
  refine lv_iconst (v := 1) hx hb dL_law_663 (by decide) ?_
  refine lv_iadd hx hb dL_law_664 ?_
  refine lv_topi (fun x_1721 ex_1721 => ?_)
  obtain rfl : x_1721 = 1 := ex_1721.trans (by decide)
  refine va_sld hx hb hX hbl hbA hS (vpi (by decide)) dL_law_665 ?_
  refine lv_topi (fun x_1722 ex_1722 => ?_)
  obtain rfl : x_1722 = xs 1 := ex_1722
  refine lv_aload_n hx hb dL_law_666 rfl (lv_at hl 3 rfl) ?_
  refine lv_iload_n hx hb dL_law_667 rfl (lv_at hl 0 rfl) ?_
  refine lv_iconst (v := 2) hx hb dL_law_668 (by decide) ?_
  refine lv_iadd hx hb dL_law_669 ?_
  refine lv_topi (fun x_1723 ex_1723 => ?_)
  obtain rfl : x_1723 = 2 := ex_1723.trans (by decide)
  refine va_sld hx hb hX hbl hbA hS (vpi (by decide)) dL_law_670 ?_
  refine lv_topi (fun x_1724 ex_1724 => ?_)
  obtain rfl : x_1724 = xs 2 := ex_1724
  have hPc := hP.sub (ws' := (wd_495 r k)) [0, 1, 2, 3, 4, 5, 6, 7, 8, 9, 10, 11, 12, 13] rfl
  have hDc := hD.sub (ws' := (wd_495 r k)) [0, 1, 2, 3, 4, 5, 6, 7, 8, 9, 10, 11, 12, 13] (by decide) rfl
  have hKc := hK.sub (tys' := [((k 0), .int), ((k 1), .int), ((k 2), .int)]) [0, 1, 2] rfl
  have hFc := va_free (wc := (wd_495 r k)) hD hS hA [0, 1, 2, 3, 4, 5, 6, 7, 8, 9, 10, 11, 12, 13] rfl
  refine va_calli (va_runV (As := [.int (xs 1), .int (xs 2)]) (rest := []) ⟨hx, hb, hml, hown, hts⟩ (mX11_room l dC dI r k (xs 1) (xs 2) H.size) (cwV 2 hts (gV q_596 q_597 q_598 q_257 q_335) rfl rfl rfl mdv_yX11_room ⟨Nat.le_of_ble_eq_true rfl, Nat.le_of_ble_eq_true rfl⟩) ⟨fun a U g mk q => by obtain ⟨q0, q1, qP, qK, qD⟩ := q; exact ⟨q0, q1, qP, va_K.moved (u := U) (U := U.calling g mk a) (Vm.Alike.refl U.vm) qK, qD⟩, va_recv hKc hPc (ci := 11) (q0 := 0) rfl rfl, fun U hU hW => ⟨rfl, by rw [hU], by rw [hU]; exact hPc, va_K.moved hW.alike hKc, hDc.weaken (fun _ _ _ _ => trivial)⟩⟩ rfl rfl hl.1 rfl (lv_room (Nat.le_of_ble_eq_true rfl)) dL_law_671 ⟨Nat.le_of_ble_eq_true rfl, Nat.le_of_ble_eq_true rfl⟩) hS (fun q _ h => hFc q h) hFc (fun r_1725 u t H1 locs ht hvm hw hB hz1 hk1 hS => ?_)
  have hP1 : va_P (dC, dI) vwCl [] H1 := fun k q h => by simp at h
  have hD1 : va_D (va_A (wd_495 r k) H.size) [] := ⟨fun i j p q h => by simp at h, fun k q h => by simp at h⟩
  obtain ⟨hP, hD⟩ := va_join (wr := (wd_758 rm km)) (w1 := []) hP hD [0, 1, 2, 3, 4, 5, 6, 7, 8, 9, 10, 11, 12, 13] [14, 15, 16, 17, 18] rfl rfl (by decide) (by decide) hk1 hFc hP1 hD1
  generalize H1 = H at hP hS ⊢
  have hP : va_P (dC, dI) vwCl (wd_758 rm km) H := hP
  have hD : va_D A (wd_758 rm km) := hD
  obtain rfl : r_1725 = (-1) := hw
  refine lv_aload_n hx hb dL_law_674 rfl (lv_at hl 1 rfl) ?_
  refine lv_aload_n hx hb dL_law_675 rfl (lv_at hl 3 rfl) ?_
  refine lv_iload_n hx hb dL_law_676 rfl (lv_at hl 0 rfl) ?_
  refine lv_iconst (v := 1) hx hb dL_law_677 (by decide) ?_
  refine lv_iadd hx hb dL_law_678 ?_
  refine lv_topi (fun x_1726 ex_1726 => ?_)
  obtain rfl : x_1726 = 1 := ex_1726.trans (by decide)
  refine va_sld hx hb hX hbl hbA hS (vpi (by decide)) dL_law_679 ?_
  refine lv_topi (fun x_1727 ex_1727 => ?_)
  obtain rfl : x_1727 = xs 1 := ex_1727
  refine lv_aload_n hx hb dL_law_680 rfl (lv_at hl 3 rfl) ?_
  refine lv_iload_n hx hb dL_law_681 rfl (lv_at hl 0 rfl) ?_
  refine lv_iconst (v := 2) hx hb dL_law_682 (by decide) ?_
  refine lv_iadd hx hb dL_law_683 ?_
  refine lv_topi (fun x_1728 ex_1728 => ?_)
  obtain rfl : x_1728 = 2 := ex_1728.trans (by decide)
  refine va_sld hx hb hX hbl hbA hS (vpi (by decide)) dL_law_684 ?_
  refine lv_topi (fun x_1729 ex_1729 => ?_)
  obtain rfl : x_1729 = xs 2 := ex_1729
  have hPc := hP.sub (ws' := (wd_758 rm km)) [0, 1, 2, 3, 4] rfl
  have hDc := hD.sub (ws' := (wd_758 rm km)) [0, 1, 2, 3, 4] (by decide) rfl
  have hKc := hK.sub (tys' := [((km 0), .int), ((km 1), .int), ((km 2), .int), ((km 3), .int)]) [3, 4, 5, 6] rfl
  have hFc := va_free (wc := (wd_758 rm km)) hD hS hA [0, 1, 2, 3, 4] rfl
  refine va_calli (va_runV (As := [.int (xs 1), .int (xs 2)]) (rest := [.int (-1)]) ⟨hx, hb, hml, hown, hts⟩ (mX12_room l dC dI rm km (xs 1) (xs 2) H.size) (cwV 2 hts (gV q_599 q_600 q_601 q_372 q_464) rfl rfl rfl mdv_yX12_room ⟨Nat.le_of_ble_eq_true rfl, Nat.le_of_ble_eq_true rfl⟩) ⟨fun a U g mk q => by obtain ⟨q0, q1, qP, qK, qD⟩ := q; exact ⟨q0, q1, qP, va_K.moved (u := U) (U := U.calling g mk a) (Vm.Alike.refl U.vm) qK, qD⟩, va_recv hKc hPc (ci := 12) (q0 := 0) rfl rfl, fun U hU hW => ⟨rfl, by rw [hU], by rw [hU]; exact hPc, va_K.moved hW.alike hKc, hDc.weaken (fun _ _ _ _ => trivial)⟩⟩ rfl rfl hl.1 rfl (lv_room (Nat.le_of_ble_eq_true rfl)) dL_law_685 ⟨Nat.le_of_ble_eq_true rfl, Nat.le_of_ble_eq_true rfl⟩) hS (fun q _ h => hFc q h) hFc (fun r_1730 u t H1 locs ht hvm hw hB hz1 hk1 hS => ?_)
  have hP1 : va_P (dC, dI) vwCl [] H1 := fun k q h => by simp at h
  have hD1 : va_D (va_A (wd_758 rm km) H.size) [] := ⟨fun i j p q h => by simp at h, fun k q h => by simp at h⟩
  obtain ⟨hP, hD⟩ := va_join (wr := []) (w1 := []) hP hD [0, 1, 2, 3, 4] [] rfl rfl (by decide) (by decide) hk1 hFc hP1 hD1
  generalize H1 = H at hP hS ⊢
  have hP : va_P (dC, dI) vwCl [] H := hP
  have hD : va_D A [] := hD
  obtain rfl : r_1730 = (-1) := hw
  refine lv_icmp_eq (tgt := 1165) hx hb dL_law_688 (by decide) (fun c_0 => ?_) (fun c_0 => absurd c_0 (by decide))
  exact law_tail C1 hS (lv_sub hl [0, 3] rfl)
set_option maxHeartbeats 4000000 in
set_option maxRecDepth 100000 in
theorem law_c17 {p : Program} {l : Launch} {e : Env} {s : State} {m : MethodId} {below : List Frame} {meth : Method} {c : Code} {b : Nat} {xs : Nat → Int32} {A : Nat → Prop} {H : Heap} {locs : List Loc} {ls : Array Slot} {dC : Nat → ClassId} {dI : Nat → Nat → Nat} {r : Nat → Nat} {k : Nat → ClassId} {rm : Nat → Nat} {km : Nat → ClassId} (C1 : lw_C p s m meth c b 6 xs A) (hP : va_P (dC, dI) vwCl (wd_897 r k rm km) H) (hD : va_D A (wd_897 r k rm km)) (hK : va_K (dC, dI) vwCl [((k 0), .int), ((k 1), .int), ((k 2), .int), ((km 0), .int), ((km 1), .int), ((km 2), .int), ((km 3), .int)] s) (hS : va_S A s.heap H locs) (hl : lv_has ls 4 [(3, .int 0), (2, .ref (rm 0)), (1, .ref (r 0)), (0, .ref b)]) : W p l e room_1 s m #[Value.ref b] below meth c H locs 179 95325 (lw_Z below #[Value.ref b] s) (F0 m 693 ls []) := by
  obtain ⟨hx, hb, hr, hml, hown, hts, hlocks, hX, hbl, hA, hAl, hbA⟩ := id C1
  refine lv_aload_n hx hb dL_law_693 rfl (lv_at hl 2 rfl) ?_
  refine lv_aload_n hx hb dL_law_694 rfl (lv_at hl 3 rfl) ?_
  refine lv_iload_n hx hb dL_law_695 rfl (lv_at hl 0 rfl) ?_
  refine lv_iconst (v := 1) hx hb dL_law_696 (by decide) ?_
  refine lv_iadd hx hb dL_law_697 ?_
  refine lv_topi (fun x_1731 ex_1731 => ?_)
  obtain rfl : x_1731 = 1 := ex_1731.trans (by decide)
  refine va_sld hx hb hX hbl hbA hS (vpi (by decide)) dL_law_698 ?_
  refine lv_topi (fun x_1732 ex_1732 => ?_)
  obtain rfl : x_1732 = xs 1 := ex_1732
  have hPc := hP.sub (ws' := (wd_495 r k)) [0, 1, 2, 3, 4, 5, 6, 7, 8, 9, 10, 11, 12, 13] rfl
  have hDc := hD.sub (ws' := (wd_495 r k)) [0, 1, 2, 3, 4, 5, 6, 7, 8, 9, 10, 11, 12, 13] (by decide) rfl
  have hKc := hK.sub (tys' := [((k 0), .int), ((k 1), .int), ((k 2), .int)]) [0, 1, 2] rfl
  have hFc := va_free (wc := (wd_495 r k)) hD hS hA [0, 1, 2, 3, 4, 5, 6, 7, 8, 9, 10, 11, 12, 13] rfl
  refine va_calli (va_runV (As := [.int (xs 1)]) (rest := []) ⟨hx, hb, hml, hown, hts⟩ (mX11_far l dC dI r k (xs 1) H.size) (cwV 1 hts (gV q_602 q_603 q_604 q_257 q_336) rfl rfl rfl mdv_yX11_far ⟨Nat.le_of_ble_eq_true rfl, Nat.le_of_ble_eq_true rfl⟩) ⟨fun a U g mk q => by obtain ⟨q0, q1, qP, qK, qD⟩ := q; exact ⟨q0, q1, qP, va_K.moved (u := U) (U := U.calling g mk a) (Vm.Alike.refl U.vm) qK, qD⟩, va_recv hKc hPc (ci := 11) (q0 := 0) rfl rfl, fun U hU hW => ⟨rfl, by rw [hU], by rw [hU]; exact hPc, va_K.moved hW.alike hKc, hDc.weaken (fun _ _ _ _ => trivial)⟩⟩ rfl rfl hl.1 rfl (lv_room (Nat.le_of_ble_eq_true rfl)) dL_law_699 ⟨Nat.le_of_ble_eq_true rfl, Nat.le_of_ble_eq_true rfl⟩) hS (fun q _ h => hFc q h) hFc (fun r_1733 u t H1 locs ht hvm hw hB hz1 hk1 hS => ?_)
  have hP1 : va_P (dC, dI) vwCl [] H1 := fun k q h => by simp at h
  have hD1 : va_D (va_A (wd_495 r k) H.size) [] := ⟨fun i j p q h => by simp at h, fun k q h => by simp at h⟩
  obtain ⟨hP, hD⟩ := va_join (wr := (wd_758 rm km)) (w1 := []) hP hD [0, 1, 2, 3, 4, 5, 6, 7, 8, 9, 10, 11, 12, 13] [14, 15, 16, 17, 18] rfl rfl (by decide) (by decide) hk1 hFc hP1 hD1
  generalize H1 = H at hP hS ⊢
  have hP : va_P (dC, dI) vwCl (wd_758 rm km) H := hP
  have hD : va_D A (wd_758 rm km) := hD
  obtain rfl : r_1733 = (-1) := hw
  refine lv_aload_n hx hb dL_law_702 rfl (lv_at hl 1 rfl) ?_
  refine lv_aload_n hx hb dL_law_703 rfl (lv_at hl 3 rfl) ?_
  refine lv_iload_n hx hb dL_law_704 rfl (lv_at hl 0 rfl) ?_
  refine lv_iconst (v := 1) hx hb dL_law_705 (by decide) ?_
  refine lv_iadd hx hb dL_law_706 ?_
  refine lv_topi (fun x_1734 ex_1734 => ?_)
  obtain rfl : x_1734 = 1 := ex_1734.trans (by decide)
  refine va_sld hx hb hX hbl hbA hS (vpi (by decide)) dL_law_707 ?_
  refine lv_topi (fun x_1735 ex_1735 => ?_)
  obtain rfl : x_1735 = xs 1 := ex_1735
  have hPc := hP.sub (ws' := (wd_758 rm km)) [0, 1, 2, 3, 4] rfl
  have hDc := hD.sub (ws' := (wd_758 rm km)) [0, 1, 2, 3, 4] (by decide) rfl
  have hKc := hK.sub (tys' := [((km 0), .int), ((km 1), .int), ((km 2), .int), ((km 3), .int)]) [3, 4, 5, 6] rfl
  have hFc := va_free (wc := (wd_758 rm km)) hD hS hA [0, 1, 2, 3, 4] rfl
  refine va_calli (va_runV (As := [.int (xs 1)]) (rest := [.int (-1)]) ⟨hx, hb, hml, hown, hts⟩ (mX12_far l dC dI rm km (xs 1) H.size) (cwV 1 hts (gV q_605 q_606 q_607 q_372 q_465) rfl rfl rfl mdv_yX12_far ⟨Nat.le_of_ble_eq_true rfl, Nat.le_of_ble_eq_true rfl⟩) ⟨fun a U g mk q => by obtain ⟨q0, q1, qP, qK, qD⟩ := q; exact ⟨q0, q1, qP, va_K.moved (u := U) (U := U.calling g mk a) (Vm.Alike.refl U.vm) qK, qD⟩, va_recv hKc hPc (ci := 12) (q0 := 0) rfl rfl, fun U hU hW => ⟨rfl, by rw [hU], by rw [hU]; exact hPc, va_K.moved hW.alike hKc, hDc.weaken (fun _ _ _ _ => trivial)⟩⟩ rfl rfl hl.1 rfl (lv_room (Nat.le_of_ble_eq_true rfl)) dL_law_708 ⟨Nat.le_of_ble_eq_true rfl, Nat.le_of_ble_eq_true rfl⟩) hS (fun q _ h => hFc q h) hFc (fun r_1736 u t H1 locs ht hvm hw hB hz1 hk1 hS => ?_)
  have hP1 : va_P (dC, dI) vwCl [] H1 := fun k q h => by simp at h
  have hD1 : va_D (va_A (wd_758 rm km) H.size) [] := ⟨fun i j p q h => by simp at h, fun k q h => by simp at h⟩
  obtain ⟨hP, hD⟩ := va_join (wr := []) (w1 := []) hP hD [0, 1, 2, 3, 4] [] rfl rfl (by decide) (by decide) hk1 hFc hP1 hD1
  generalize H1 = H at hP hS ⊢
  have hP : va_P (dC, dI) vwCl [] H := hP
  have hD : va_D A [] := hD
  obtain rfl : r_1736 = (-1) := hw
  refine lv_icmp_eq (tgt := 1165) hx hb dL_law_711 (by decide) (fun c_0 => ?_) (fun c_0 => absurd c_0 (by decide))
  exact law_tail C1 hS (lv_sub hl [0, 3] rfl)
set_option maxHeartbeats 4000000 in
set_option maxRecDepth 100000 in
theorem law_c18 {p : Program} {l : Launch} {e : Env} {s : State} {m : MethodId} {below : List Frame} {meth : Method} {c : Code} {b : Nat} {xs : Nat → Int32} {A : Nat → Prop} {H : Heap} {locs : List Loc} {ls : Array Slot} {dC : Nat → ClassId} {dI : Nat → Nat → Nat} {r : Nat → Nat} {k : Nat → ClassId} {rm : Nat → Nat} {km : Nat → ClassId} (C1 : lw_C p s m meth c b 6 xs A) (hP : va_P (dC, dI) vwCl (wd_897 r k rm km) H) (hD : va_D A (wd_897 r k rm km)) (hK : va_K (dC, dI) vwCl [((k 0), .int), ((k 1), .int), ((k 2), .int), ((km 0), .int), ((km 1), .int), ((km 2), .int), ((km 3), .int)] s) (hS : va_S A s.heap H locs) (hl : lv_has ls 4 [(3, .int 0), (2, .ref (rm 0)), (1, .ref (r 0)), (0, .ref b)]) : W p l e room_1 s m #[Value.ref b] below meth c H locs 179 95325 (lw_Z below #[Value.ref b] s) (F0 m 716 ls []) := by
  obtain ⟨hx, hb, hr, hml, hown, hts, hlocks, hX, hbl, hA, hAl, hbA⟩ := id C1
  refine lv_aload_n hx hb dL_law_716 rfl (lv_at hl 2 rfl) ?_
  refine lv_aload_n hx hb dL_law_717 rfl (lv_at hl 3 rfl) ?_
  refine lv_iload_n hx hb dL_law_718 rfl (lv_at hl 0 rfl) ?_
  refine lv_iconst (v := 1) hx hb dL_law_719 (by decide) ?_
  refine lv_iadd hx hb dL_law_720 ?_
  refine lv_topi (fun x_1737 ex_1737 => ?_)
  obtain rfl : x_1737 = 1 := ex_1737.trans (by decide)
  refine va_sld hx hb hX hbl hbA hS (vpi (by decide)) dL_law_721 ?_
  refine lv_topi (fun x_1738 ex_1738 => ?_)
  obtain rfl : x_1738 = xs 1 := ex_1738
  refine lv_aload_n hx hb dL_law_722 rfl (lv_at hl 3 rfl) ?_
  refine lv_iload_n hx hb dL_law_723 rfl (lv_at hl 0 rfl) ?_
  refine lv_iconst (v := 2) hx hb dL_law_724 (by decide) ?_
  refine lv_iadd hx hb dL_law_725 ?_
  refine lv_topi (fun x_1739 ex_1739 => ?_)
  obtain rfl : x_1739 = 2 := ex_1739.trans (by decide)
  refine va_sld hx hb hX hbl hbA hS (vpi (by decide)) dL_law_726 ?_
  refine lv_topi (fun x_1740 ex_1740 => ?_)
  obtain rfl : x_1740 = xs 2 := ex_1740
  have hPc := hP.sub (ws' := (wd_495 r k)) [0, 1, 2, 3, 4, 5, 6, 7, 8, 9, 10, 11, 12, 13] rfl
  have hDc := hD.sub (ws' := (wd_495 r k)) [0, 1, 2, 3, 4, 5, 6, 7, 8, 9, 10, 11, 12, 13] (by decide) rfl
  have hKc := hK.sub (tys' := [((k 0), .int), ((k 1), .int), ((k 2), .int)]) [0, 1, 2] rfl
  have hFc := va_free (wc := (wd_495 r k)) hD hS hA [0, 1, 2, 3, 4, 5, 6, 7, 8, 9, 10, 11, 12, 13] rfl
  refine va_calli (va_runV (As := [.int (xs 1), .int (xs 2)]) (rest := []) ⟨hx, hb, hml, hown, hts⟩ (mX11_way l dC dI r k (xs 1) (xs 2) H.size) (cwV 2 hts (gV q_608 q_609 q_610 q_257 q_337) rfl rfl rfl mdv_yX11_way ⟨Nat.le_of_ble_eq_true rfl, Nat.le_of_ble_eq_true rfl⟩) ⟨fun a U g mk q => by obtain ⟨q0, q1, qP, qK, qD⟩ := q; exact ⟨q0, q1, qP, va_K.moved (u := U) (U := U.calling g mk a) (Vm.Alike.refl U.vm) qK, qD⟩, va_recv hKc hPc (ci := 11) (q0 := 0) rfl rfl, fun U hU hW => ⟨rfl, by rw [hU], by rw [hU]; exact hPc, va_K.moved hW.alike hKc, hDc.weaken (fun _ _ _ _ => trivial)⟩⟩ rfl rfl hl.1 rfl (lv_room (Nat.le_of_ble_eq_true rfl)) dL_law_727 ⟨Nat.le_of_ble_eq_true rfl, Nat.le_of_ble_eq_true rfl⟩) hS (fun q _ h => hFc q h) hFc (fun r_1741 u t H1 locs ht hvm hw hB hz1 hk1 hS => ?_)
  have hP1 : va_P (dC, dI) vwCl [] H1 := fun k q h => by simp at h
  have hD1 : va_D (va_A (wd_495 r k) H.size) [] := ⟨fun i j p q h => by simp at h, fun k q h => by simp at h⟩
  obtain ⟨hP, hD⟩ := va_join (wr := (wd_758 rm km)) (w1 := []) hP hD [0, 1, 2, 3, 4, 5, 6, 7, 8, 9, 10, 11, 12, 13] [14, 15, 16, 17, 18] rfl rfl (by decide) (by decide) hk1 hFc hP1 hD1
  generalize H1 = H at hP hS ⊢
  have hP : va_P (dC, dI) vwCl (wd_758 rm km) H := hP
  have hD : va_D A (wd_758 rm km) := hD
  obtain rfl : r_1741 = (-1) := hw
  refine lv_aload_n hx hb dL_law_730 rfl (lv_at hl 1 rfl) ?_
  refine lv_aload_n hx hb dL_law_731 rfl (lv_at hl 3 rfl) ?_
  refine lv_iload_n hx hb dL_law_732 rfl (lv_at hl 0 rfl) ?_
  refine lv_iconst (v := 1) hx hb dL_law_733 (by decide) ?_
  refine lv_iadd hx hb dL_law_734 ?_
  refine lv_topi (fun x_1742 ex_1742 => ?_)
  obtain rfl : x_1742 = 1 := ex_1742.trans (by decide)
  refine va_sld hx hb hX hbl hbA hS (vpi (by decide)) dL_law_735 ?_
  refine lv_topi (fun x_1743 ex_1743 => ?_)
  obtain rfl : x_1743 = xs 1 := ex_1743
  refine lv_aload_n hx hb dL_law_736 rfl (lv_at hl 3 rfl) ?_
  refine lv_iload_n hx hb dL_law_737 rfl (lv_at hl 0 rfl) ?_
  refine lv_iconst (v := 2) hx hb dL_law_738 (by decide) ?_
  refine lv_iadd hx hb dL_law_739 ?_
  refine lv_topi (fun x_1744 ex_1744 => ?_)
  obtain rfl : x_1744 = 2 := ex_1744.trans (by decide)
  refine va_sld hx hb hX hbl hbA hS (vpi (by decide)) dL_law_740 ?_
  refine lv_topi (fun x_1745 ex_1745 => ?_)
  obtain rfl : x_1745 = xs 2 := ex_1745
  have hPc := hP.sub (ws' := (wd_758 rm km)) [0, 1, 2, 3, 4] rfl
  have hDc := hD.sub (ws' := (wd_758 rm km)) [0, 1, 2, 3, 4] (by decide) rfl
  have hKc := hK.sub (tys' := [((km 0), .int), ((km 1), .int), ((km 2), .int), ((km 3), .int)]) [3, 4, 5, 6] rfl
  have hFc := va_free (wc := (wd_758 rm km)) hD hS hA [0, 1, 2, 3, 4] rfl
  refine va_calli (va_runV (As := [.int (xs 1), .int (xs 2)]) (rest := [.int (-1)]) ⟨hx, hb, hml, hown, hts⟩ (mX12_way l dC dI rm km (xs 1) (xs 2) H.size) (cwV 2 hts (gV q_611 q_612 q_613 q_372 q_466) rfl rfl rfl mdv_yX12_way ⟨Nat.le_of_ble_eq_true rfl, Nat.le_of_ble_eq_true rfl⟩) ⟨fun a U g mk q => by obtain ⟨q0, q1, qP, qK, qD⟩ := q; exact ⟨q0, q1, qP, va_K.moved (u := U) (U := U.calling g mk a) (Vm.Alike.refl U.vm) qK, qD⟩, va_recv hKc hPc (ci := 12) (q0 := 0) rfl rfl, fun U hU hW => ⟨rfl, by rw [hU], by rw [hU]; exact hPc, va_K.moved hW.alike hKc, hDc.weaken (fun _ _ _ _ => trivial)⟩⟩ rfl rfl hl.1 rfl (lv_room (Nat.le_of_ble_eq_true rfl)) dL_law_741 ⟨Nat.le_of_ble_eq_true rfl, Nat.le_of_ble_eq_true rfl⟩) hS (fun q _ h => hFc q h) hFc (fun r_1746 u t H1 locs ht hvm hw hB hz1 hk1 hS => ?_)
  have hP1 : va_P (dC, dI) vwCl [] H1 := fun k q h => by simp at h
  have hD1 : va_D (va_A (wd_758 rm km) H.size) [] := ⟨fun i j p q h => by simp at h, fun k q h => by simp at h⟩
  obtain ⟨hP, hD⟩ := va_join (wr := []) (w1 := []) hP hD [0, 1, 2, 3, 4] [] rfl rfl (by decide) (by decide) hk1 hFc hP1 hD1
  generalize H1 = H at hP hS ⊢
  have hP : va_P (dC, dI) vwCl [] H := hP
  have hD : va_D A [] := hD
  obtain rfl : r_1746 = (-1) := hw
  refine lv_icmp_eq (tgt := 1165) hx hb dL_law_744 (by decide) (fun c_0 => ?_) (fun c_0 => absurd c_0 (by decide))
  exact law_tail C1 hS (lv_sub hl [0, 3] rfl)
set_option maxHeartbeats 4000000 in
set_option maxRecDepth 100000 in
theorem law_c19 {p : Program} {l : Launch} {e : Env} {s : State} {m : MethodId} {below : List Frame} {meth : Method} {c : Code} {b : Nat} {xs : Nat → Int32} {A : Nat → Prop} {H : Heap} {locs : List Loc} {ls : Array Slot} {dC : Nat → ClassId} {dI : Nat → Nat → Nat} {r : Nat → Nat} {k : Nat → ClassId} {rm : Nat → Nat} {km : Nat → ClassId} (C1 : lw_C p s m meth c b 6 xs A) (hP : va_P (dC, dI) vwCl (wd_897 r k rm km) H) (hD : va_D A (wd_897 r k rm km)) (hK : va_K (dC, dI) vwCl [((k 0), .int), ((k 1), .int), ((k 2), .int), ((km 0), .int), ((km 1), .int), ((km 2), .int), ((km 3), .int)] s) (hS : va_S A s.heap H locs) (hl : lv_has ls 4 [(3, .int 0), (2, .ref (rm 0)), (1, .ref (r 0)), (0, .ref b)]) : W p l e room_1 s m #[Value.ref b] below meth c H locs 179 95325 (lw_Z below #[Value.ref b] s) (F0 m 749 ls []) := by
  obtain ⟨hx, hb, hr, hml, hown, hts, hlocks, hX, hbl, hA, hAl, hbA⟩ := id C1
  refine lv_aload_n hx hb dL_law_749 rfl (lv_at hl 2 rfl) ?_
  refine lv_aload_n hx hb dL_law_750 rfl (lv_at hl 3 rfl) ?_
  refine lv_iload_n hx hb dL_law_751 rfl (lv_at hl 0 rfl) ?_
  refine lv_iconst (v := 1) hx hb dL_law_752 (by decide) ?_
  refine lv_iadd hx hb dL_law_753 ?_
  refine lv_topi (fun x_1747 ex_1747 => ?_)
  obtain rfl : x_1747 = 1 := ex_1747.trans (by decide)
  refine va_sld hx hb hX hbl hbA hS (vpi (by decide)) dL_law_754 ?_
  refine lv_topi (fun x_1748 ex_1748 => ?_)
  obtain rfl : x_1748 = xs 1 := ex_1748
  have hPc := hP.sub (ws' := (wd_495 r k)) [0, 1, 2, 3, 4, 5, 6, 7, 8, 9, 10, 11, 12, 13] rfl
  have hDc := hD.sub (ws' := (wd_495 r k)) [0, 1, 2, 3, 4, 5, 6, 7, 8, 9, 10, 11, 12, 13] (by decide) rfl
  have hKc := hK.sub (tys' := [((k 0), .int), ((k 1), .int), ((k 2), .int)]) [0, 1, 2] rfl
  have hFc := va_free (wc := (wd_495 r k)) hD hS hA [0, 1, 2, 3, 4, 5, 6, 7, 8, 9, 10, 11, 12, 13] rfl
  refine va_calli (va_runV (As := [.int (xs 1)]) (rest := []) ⟨hx, hb, hml, hown, hts⟩ (mX11_keeps l dC dI r k (xs 1) H.size) (cwV 1 hts (gV q_614 q_615 q_616 q_257 q_338) rfl rfl rfl mdv_yX11_keeps ⟨Nat.le_of_ble_eq_true rfl, Nat.le_of_ble_eq_true rfl⟩) ⟨fun a U g mk q => by obtain ⟨q0, q1, qP, qK, qD⟩ := q; exact ⟨q0, q1, qP, va_K.moved (u := U) (U := U.calling g mk a) (Vm.Alike.refl U.vm) qK, qD⟩, va_recv hKc hPc (ci := 11) (q0 := 0) rfl rfl, fun U hU hW => ⟨rfl, by rw [hU], by rw [hU]; exact hPc, va_K.moved hW.alike hKc, hDc.weaken (fun _ _ _ _ => trivial)⟩⟩ rfl rfl hl.1 rfl (lv_room (Nat.le_of_ble_eq_true rfl)) dL_law_755 ⟨Nat.le_of_ble_eq_true rfl, Nat.le_of_ble_eq_true rfl⟩) hS (fun q _ h => hFc q h) hFc (fun r_1749 u t H1 locs ht hvm hw hB hz1 hk1 hS => ?_)
  have hP1 : va_P (dC, dI) vwCl [] H1 := fun k q h => by simp at h
  have hD1 : va_D (va_A (wd_495 r k) H.size) [] := ⟨fun i j p q h => by simp at h, fun k q h => by simp at h⟩
  obtain ⟨hP, hD⟩ := va_join (wr := (wd_758 rm km)) (w1 := []) hP hD [0, 1, 2, 3, 4, 5, 6, 7, 8, 9, 10, 11, 12, 13] [14, 15, 16, 17, 18] rfl rfl (by decide) (by decide) hk1 hFc hP1 hD1
  generalize H1 = H at hP hS ⊢
  have hP : va_P (dC, dI) vwCl (wd_758 rm km) H := hP
  have hD : va_D A (wd_758 rm km) := hD
  obtain rfl : r_1749 = (-1) := hw
  refine lv_aload_n hx hb dL_law_758 rfl (lv_at hl 1 rfl) ?_
  refine lv_aload_n hx hb dL_law_759 rfl (lv_at hl 3 rfl) ?_
  refine lv_iload_n hx hb dL_law_760 rfl (lv_at hl 0 rfl) ?_
  refine lv_iconst (v := 1) hx hb dL_law_761 (by decide) ?_
  refine lv_iadd hx hb dL_law_762 ?_
  refine lv_topi (fun x_1750 ex_1750 => ?_)
  obtain rfl : x_1750 = 1 := ex_1750.trans (by decide)
  refine va_sld hx hb hX hbl hbA hS (vpi (by decide)) dL_law_763 ?_
  refine lv_topi (fun x_1751 ex_1751 => ?_)
  obtain rfl : x_1751 = xs 1 := ex_1751
  have hPc := hP.sub (ws' := (wd_758 rm km)) [0, 1, 2, 3, 4] rfl
  have hDc := hD.sub (ws' := (wd_758 rm km)) [0, 1, 2, 3, 4] (by decide) rfl
  have hKc := hK.sub (tys' := [((km 0), .int), ((km 1), .int), ((km 2), .int), ((km 3), .int)]) [3, 4, 5, 6] rfl
  have hFc := va_free (wc := (wd_758 rm km)) hD hS hA [0, 1, 2, 3, 4] rfl
  refine va_calli (va_runV (As := [.int (xs 1)]) (rest := [.int (-1)]) ⟨hx, hb, hml, hown, hts⟩ (mX12_keeps l dC dI rm km (xs 1) H.size) (cwV 1 hts (gV q_617 q_618 q_619 q_372 q_467) rfl rfl rfl mdv_yX12_keeps ⟨Nat.le_of_ble_eq_true rfl, Nat.le_of_ble_eq_true rfl⟩) ⟨fun a U g mk q => by obtain ⟨q0, q1, qP, qK, qD⟩ := q; exact ⟨q0, q1, qP, va_K.moved (u := U) (U := U.calling g mk a) (Vm.Alike.refl U.vm) qK, qD⟩, va_recv hKc hPc (ci := 12) (q0 := 0) rfl rfl, fun U hU hW => ⟨rfl, by rw [hU], by rw [hU]; exact hPc, va_K.moved hW.alike hKc, hDc.weaken (fun _ _ _ _ => trivial)⟩⟩ rfl rfl hl.1 rfl (lv_room (Nat.le_of_ble_eq_true rfl)) dL_law_764 ⟨Nat.le_of_ble_eq_true rfl, Nat.le_of_ble_eq_true rfl⟩) hS (fun q _ h => hFc q h) hFc (fun r_1752 u t H1 locs ht hvm hw hB hz1 hk1 hS => ?_)
  have hP1 : va_P (dC, dI) vwCl [] H1 := fun k q h => by simp at h
  have hD1 : va_D (va_A (wd_758 rm km) H.size) [] := ⟨fun i j p q h => by simp at h, fun k q h => by simp at h⟩
  obtain ⟨hP, hD⟩ := va_join (wr := []) (w1 := []) hP hD [0, 1, 2, 3, 4] [] rfl rfl (by decide) (by decide) hk1 hFc hP1 hD1
  generalize H1 = H at hP hS ⊢
  have hP : va_P (dC, dI) vwCl [] H := hP
  have hD : va_D A [] := hD
  obtain rfl : r_1752 = (-1) := hw
  refine lv_icmp_eq (tgt := 1165) hx hb dL_law_767 (by decide) (fun c_0 => ?_) (fun c_0 => absurd c_0 (by decide))
  exact law_tail C1 hS (lv_sub hl [0, 3] rfl)
