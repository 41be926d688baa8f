"""The document's answers by plain, slow roads, apart from the Java class.

Rooms come of power series and linear algebra, the group of a search over all chains of numbers,
the nearest word of all words: none of it leans on the short roads that CurveRooms.java takes.
"""
import itertools
from collections import Counter
from math import gcd

NONE, BAD, NO, FULL = -1, -2, -3, -4
PRIMES = (3, 5, 7, 11, 13)
NOUGHT = ((1,), ())


def trim(a):
    a = list(a)
    while a and a[-1] == 0:
        a.pop()
    return a


def plus(a, b, p):
    pairs = itertools.zip_longest(a, b, fillvalue=0)
    return trim([(x + y) % p for x, y in pairs])


def less(a, p):
    return trim([-c % p for c in a])


def product(a, b, p):
    if not a or not b:
        return []
    out = [0] * (len(a) + len(b) - 1)
    for i, x in enumerate(a):
        for j, y in enumerate(b):
            out[i + j] = (out[i + j] + x * y) % p
    return trim(out)


def divide(a, b, p):
    rest = list(a)
    quotient = [0] * max(0, len(a) - len(b) + 1)
    inverse = pow(b[-1], -1, p)
    for shift in range(len(a) - len(b), -1, -1):
        k = rest[shift + len(b) - 1] * inverse % p
        quotient[shift] = k
        for i, c in enumerate(b):
            rest[shift + i] = (rest[shift + i] - k * c) % p
    return trim(quotient), trim(rest)


def common(a, b, p):
    """d, s, t with d = s a + t b, 1 highest."""
    if not b:
        if not a:
            return [], [], []
        inverse = pow(a[-1], -1, p)
        return product(a, [inverse], p), [inverse], []
    quotient, rest = divide(a, b, p)
    d, s, t = common(b, rest, p)
    return d, t, plus(s, less(product(quotient, t, p), p), p)


def value(a, x, p):
    v = 0
    for c in reversed(a):
        v = (v * x + c) % p
    return v


def moved(f, a, b, p):
    """f(a x + b)"""
    out = []
    for c in reversed(f):
        out = plus(product(out, trim([b, a]), p), trim([c]), p)
    return out


def rank(rows, p):
    rows = [list(r) for r in rows]
    done = 0
    width = len(rows[0]) if rows else 0
    for column in range(width):
        pivot = next((i for i in range(done, len(rows)) if rows[i][column] % p), None)
        if pivot is None:
            continue
        rows[done], rows[pivot] = rows[pivot], rows[done]
        inverse = pow(rows[done][column], -1, p)
        rows[done] = [v * inverse % p for v in rows[done]]
        for i in range(done + 1, len(rows)):
            k = rows[i][column]
            if k:
                rows[i] = [(x - k * y) % p for x, y in zip(rows[i], rows[done])]
        done += 1
        if done == len(rows):
            break
    return done


def unparted(p, k):
    """A row of degree k by which the field of P to the k is made."""
    for low in itertools.product(range(p), repeat=k):
        m = list(low) + [1]
        parts = (list(part) + [1] for d in range(1, k // 2 + 1) for part in itertools.product(range(p), repeat=d))
        if all(divide(m, part, p)[1] for part in parts):
            return m
    return None


def points_over(f, p, k):
    """N(k) by going over all numbers of the field."""
    m = unparted(p, k)
    numbers = [trim(e) for e in itertools.product(range(p), repeat=k)]
    roots = Counter(tuple(divide(product(y, y, p), m, p)[1]) for y in numbers)
    many = 1
    for x in numbers:
        v = []
        for c in reversed(f):
            v = plus(divide(product(v, x, p), m, p)[1], trim([c]), p)
        many += roots[tuple(v)]
    return many


def series_product(a, b, p):
    n = len(a)
    out = [0] * n
    for i in range(n):
        if a[i]:
            for j in range(n - i):
                out[i + j] = (out[i + j] + a[i] * b[j]) % p
    return out


class Curve:
    def __init__(self, p, f):
        self.p, self.f, self.genus = p, f, (len(f) - 1) // 2
        on = [(x, y) for x in range(p) for y in range(p) if (y * y - value(f, x, p)) % p == 0]
        self.points = [None] + on
        self.wide = points_over(f, p, 2)
        self.find_shares()
        self.listed = self.numbers = self.turns_found = None

    def find_shares(self):
        p = self.p
        first, second = len(self.points) - 1 - p, self.wide - 1 - p * p
        self.shares = [1, first, p]
        if self.genus == 2:
            assert (second + first * first) % 2 == 0
            self.shares = [1, first, (second + first * first) // 2, first * p, p * p]
        a = self.shares + [0] * 6
        over = [0] * 7
        for k in range(1, 7):
            over[k] = k * a[k] - sum(a[i] * over[k - i] for i in range(1, k))
        self.counts = [0] + [1 + p ** k + over[k] for k in range(1, 7)]
        assert self.counts[2] == self.wide
        self.h = sum(self.shares)
        self.places = [0] * 7
        for k in range(1, 7):
            rest = self.counts[k] - sum(d * self.places[d] for d in range(1, k) if k % d == 0)
            assert rest % k == 0
            self.places[k] = rest // k

    def classes(self):
        if self.listed is None:
            p = self.p
            self.listed = []
            for d in range(self.genus + 1):
                for high_u in itertools.product(range(p), repeat=d):
                    u = list(reversed(high_u)) + [1]
                    for high_v in itertools.product(range(p), repeat=d):
                        v = trim(reversed(high_v))
                        if not divide(plus(product(v, v, p), less(self.f, p), p), u, p)[1]:
                            self.listed.append((tuple(u), tuple(v)))
            assert len(self.listed) == self.h
        return self.listed

    def add(self, a, b):
        p = self.p
        (u1, v1), (u2, v2) = a, b
        e, a1, a2 = common(list(u1), list(u2), p)
        d, c1, s3 = common(e, plus(v1, v2, p), p)
        s1, s2 = product(c1, a1, p), product(c1, a2, p)
        u, rest = divide(product(u1, u2, p), product(d, d, p), p)
        assert not rest
        v = plus(product(product(s1, u1, p), v2, p), product(product(s2, u2, p), v1, p), p)
        v = plus(v, product(s3, plus(product(v1, v2, p), self.f, p), p), p)
        v, rest = divide(v, d, p)
        assert not rest
        v = divide(v, u, p)[1]
        while len(u) - 1 > self.genus:
            u, rest = divide(plus(self.f, less(product(v, v, p), p), p), u, p)
            assert not rest
            u = product(u, [pow(u[-1], -1, p)], p)
            v = divide(less(v, p), u, p)[1]
        return tuple(u), tuple(v)

    def multiply(self, a, n):
        if n < 0:
            return self.multiply((a[0], tuple(less(a[1], self.p))), -n)
        out = NOUGHT
        while n:
            if n & 1:
                out = self.add(out, a)
            a = self.add(a, a)
            n >>= 1
        return out

    def order(self, a):
        n, walked = 1, a
        while walked != NOUGHT:
            walked = self.add(walked, a)
            n += 1
        return n

    def log(self, a, b):
        n, walked = 0, NOUGHT
        while walked != b:
            walked = self.add(walked, a)
            n += 1
            if walked == NOUGHT:
                return NONE
        return n

    def class_of(self, i):
        if i == 0:
            return NOUGHT
        x, y = self.points[i]
        return (-x % self.p, 1), tuple(trim([y]))

    def group(self):
        if self.numbers is None:
            due = Counter(self.order(c) for c in self.classes())
            fits = [c for c in chains(self.h, None) if orders_of(c) == due]
            assert len(fits) == 1
            self.numbers = fits[0]
        return self.numbers

    def series(self, i, n):
        """x and y at a point as power series of length n by what is a nought of 1 there."""
        p = self.p
        x0, y0 = self.points[i]
        near = moved(self.f, 1, x0, p) + [0] * 6
        if y0:
            inverse = pow(2 * y0, -1, p)
            y = [y0]
            for k in range(1, n):
                rest = (near[k] if k < 6 else 0) - sum(y[j] * y[k - j] for j in range(1, k))
                y.append(rest * inverse % p)
            return ([x0, 1] + [0] * n)[:n], y
        inverse = pow(near[1], -1, p)
        z = [0] * n
        for _ in range(n + 2):
            rest = [0, 0, 1] + [0] * n
            rest = rest[:n]
            power = z
            for k in range(2, 6):
                power = series_product(power, z, p)
                rest = [(r - near[k] * w) % p for r, w in zip(rest, power)]
            z = [r * inverse % p for r in rest]
        z[0] = (z[0] + x0) % p
        return z, ([0, 1] + [0] * n)[:n]

    def width(self, amounts):
        p, degree = self.p, len(self.f) - 1
        below = Counter()
        for i, (x, y) in enumerate(self.points[1:], 1):
            steps = 1 if y else 2
            below[x] = max(below[x], -(-amounts[i] // steps), 0)
        most = amounts[0] + 2 * sum(below.values())
        told = [(j // 2, 0) if j % 2 == 0 else ((j - degree) // 2, 1)
                for j in range(most + 1) if j % 2 == 0 or j >= degree]
        rows = []
        for i, (x0, y0) in enumerate(self.points[1:], 1):
            noughts = (1 if y0 else 2) * below[x0] - amounts[i]
            if noughts <= 0:
                continue
            x, y = self.series(i, noughts)
            columns = []
            for a, b in told:
                s = [1] + [0] * (noughts - 1)
                for factor in [x] * a + [y] * b:
                    s = series_product(s, factor, p)
                columns.append(s)
            rows += [[c[k] for c in columns] for k in range(noughts)]
        return len(told) - rank(rows, p)

    def gaps(self, i):
        bits = 0
        for n in range(1, 2 * self.genus + 1):
            more, fewer = [0] * len(self.points), [0] * len(self.points)
            more[i], fewer[i] = n, n - 1
            if self.width(more) == self.width(fewer):
                bits |= 1 << (n - 1)
        return bits

    def words(self, m):
        p, degree = self.p, len(self.f) - 1
        left = []
        for j in range(m + 1):
            if j % 2 == 1 and j < degree:
                continue
            if j % 2 == 0:
                word = [pow(x, j // 2, p) for x, y in self.points[1:]]
            else:
                word = [pow(x, (j - degree) // 2, p) * y % p for x, y in self.points[1:]]
            if rank(left + [word], p) > len(left):
                left.append(word)
        return left

    def turns(self):
        if self.turns_found is None:
            p = self.p
            self.turns_found = [
                (a, b, c) for a in range(1, p) for b in range(p) for c in range(1, p)
                if moved(self.f, a, b, p) == product(self.f, [c * c % p], p)]
        return self.turns_found


def chains(h, last):
    if h == 1:
        yield []
        return
    for d in range(2, h + 1):
        if h % d == 0 and (last is None or last % d == 0):
            for rest in chains(h // d, d):
                yield rest + [d]


def orders_of(numbers):
    orders = Counter({1: 1})
    for d in numbers:
        rounds = Counter(d // gcd(d, k) for k in range(d))
        both = Counter()
        for o1, m1 in orders.items():
            for o2, m2 in rounds.items():
                both[o1 * o2 // gcd(o1, o2)] += m1 * m2
        orders = both
    return orders


class Reference:
    """The calls of the face, each with the document's order of refusals."""
    known = {}

    def __init__(self):
        self.reset(7)

    def reset(self, p):
        self.p, self.row, self.c = p, [], None
        self.registers, self.amounts = [NOUGHT] * 6, [0]
        self.told, self.covered = [0] * 26, [0] * p

    def is_point(self, i):
        return 0 <= i < (len(self.c.points) if self.c else 27)

    def prime(self, p):
        if p not in PRIMES:
            return BAD
        self.reset(p)
        return 1

    def push(self, v):
        if not 0 <= v < self.p:
            return BAD
        if len(self.row) == 6:
            return FULL
        self.row.append(v)
        return len(self.row)

    def curve(self):
        f, p = trim(self.row), self.p
        self.row = []
        if len(f) not in (4, 6) or f[-1] != 1:
            return NO
        derived = trim([i * f[i] % p for i in range(1, len(f))])
        if len(common(f, derived, p)[0]) > 1:
            return NO
        key = (p, tuple(f))
        if key not in self.known:
            self.known[key] = Curve(p, f)
        self.c = self.known[key]
        self.registers, self.amounts = [NOUGHT] * 6, [0] * len(self.c.points)
        return self.c.genus

    def points(self):
        return len(self.c.points) if self.c else NO

    def point(self, i, what):
        if not self.is_point(i) or what not in (0, 1, 2):
            return BAD
        if not self.c:
            return NO
        if i == 0:
            return 0 if what == 2 else NONE
        x, y = self.c.points[i]
        return self.c.points.index((x, -y % self.p)) if what == 2 else (x, y)[what]

    def count(self, k):
        if not 1 <= k <= 6:
            return BAD
        return self.c.counts[k] if self.c else NO

    def countAll(self):
        return self.c.wide if self.c else NO

    def share(self, i):
        if i < 0:
            return -2000000000
        if not self.c:
            return -2100000000
        return self.c.shares[i] if i < len(self.c.shares) else -1000000000

    def classes(self):
        return self.c.h if self.c else NO

    def places(self, d):
        if not 1 <= d <= 6:
            return BAD
        return self.c.places[d] if self.c else NO

    @staticmethod
    def are_registers(*told):
        return all(0 <= r < 6 for r in told)

    def at(self, r, i):
        if not self.are_registers(r) or not self.is_point(i):
            return BAD
        if not self.c:
            return NO
        self.registers[r] = self.c.class_of(i)
        return 1

    def pick(self, r, i):
        if not self.are_registers(r) or i < 0 or self.c and i >= self.c.h:
            return BAD
        if not self.c:
            return NO
        self.registers[r] = self.c.classes()[i]
        return 1

    def sum(self, r, a, b):
        if not self.are_registers(r, a, b):
            return BAD
        if not self.c:
            return NO
        self.registers[r] = self.c.add(self.registers[a], self.registers[b])
        return 1

    def times(self, r, a, n):
        if not self.are_registers(r, a) or abs(n) > 100000:
            return BAD
        if not self.c:
            return NO
        self.registers[r] = self.c.multiply(self.registers[a], n)
        return 1

    def of(self, r, what, i):
        if not self.are_registers(r) or what not in (0, 1) or i < 0:
            return BAD
        if not self.c:
            return NO
        row = self.registers[r][what]
        return row[i] if i < len(row) else NONE

    def which(self, r):
        if not self.are_registers(r):
            return BAD
        return self.c.classes().index(self.registers[r]) if self.c else NO

    def order(self, r):
        if not self.are_registers(r):
            return BAD
        return self.c.order(self.registers[r]) if self.c else NO

    def log(self, a, b):
        if not self.are_registers(a, b):
            return BAD
        return self.c.log(self.registers[a], self.registers[b]) if self.c else NO

    def group(self, i):
        if i < 0:
            return BAD
        if not self.c:
            return NO
        numbers = self.c.group()
        return numbers[i] if i < len(numbers) else NONE

    def amount(self, i, v):
        if not self.is_point(i) or abs(v) > (30 if i == 0 else 4):
            return -100
        if not self.c:
            return -200
        was, self.amounts[i] = self.amounts[i], v
        return was

    def room(self, what):
        if what not in (0, 1, 2):
            return BAD
        if not self.c:
            return NO
        if what == 1:
            return sum(self.amounts)
        if what == 0:
            return self.c.width(self.amounts)
        turned = [-v for v in self.amounts]
        turned[0] += 2 * self.c.genus - 2
        return self.c.width(turned)

    def gaps(self, i):
        if not self.is_point(i):
            return BAD
        return self.c.gaps(i) if self.c else NO

    def code(self, m, what):
        if not 0 <= m <= 30 or what not in (0, 1):
            return BAD
        if not self.c:
            return NO
        return len(self.c.points) - 1 if what == 0 else len(self.c.words(m))

    def read(self, m, i, point):
        if not 0 <= m <= 30 or i < 0 or point < 1 or not self.is_point(point):
            return BAD
        if not self.c:
            return NO
        words = self.c.words(m)
        return words[i][point - 1] if i < len(words) else BAD

    def tell(self, j, v):
        if not 0 <= j < 26 or not 0 <= v < self.p:
            return BAD
        was, self.told[j] = self.told[j], v
        return was

    def all_words(self, words):
        length = len(self.c.points) - 1
        for high in itertools.product(range(self.p), repeat=len(words)):
            digits = high[::-1]
            yield digits, [sum(d * w[j] for d, w in zip(digits, words)) % self.p for j in range(length)]

    def near(self, m, what):
        if not 0 <= m <= 30 or what < -1:
            return BAD
        if not self.c:
            return NO
        words = self.c.words(m)
        if self.p ** len(words) > 20000:
            return NO
        if what >= len(words):
            return NONE
        best = None
        for digits, word in self.all_words(words):
            apart = sum(a != b for a, b in zip(word, self.told))
            if best is None or apart < best[0]:
                best = apart, digits
        return best[0] if what == -1 else best[1][what]

    def least(self, m):
        if not 0 <= m <= 30:
            return BAD
        if not self.c:
            return NO
        words = self.c.words(m)
        if self.p ** len(words) > 20000:
            return NO
        if not words:
            return NONE
        return min(sum(v != 0 for v in word) for _, word in self.all_words(words) if any(word))

    def turns(self, what):
        if what < -1:
            return BAD
        if not self.c:
            return NO
        found = self.c.turns()
        if what == -1:
            return len(found)
        if what >= len(found):
            return NONE
        a, b, c = found[what]
        return 10000 * a + 100 * b + c

    def turned(self, i, point):
        if i < 0 or not self.is_point(point):
            return BAD
        if not self.c:
            return NO
        found = self.c.turns()
        if i >= len(found):
            return BAD
        if point == 0:
            return 0
        (a, b, c), (x, y) = found[i], self.c.points[point]
        return self.c.points.index(((a * x + b) % self.p, c * y % self.p))

    def cover(self, a, e):
        if not 0 <= a < self.p or not 0 <= e <= 20:
            return BAD
        was, self.covered[a] = self.covered[a], e
        return was

    def genus(self, n):
        if not 2 <= n <= 12 or n % self.p == 0:
            return BAD
        if gcd(n, *self.covered) != 1:
            return NO
        twice = 2 - 2 * n + sum(n - gcd(n, e) for e in self.covered + [sum(self.covered)])
        assert twice % 2 == 0
        return twice // 2

    def above(self, n, a):
        if not 2 <= n <= 12 or n % self.p == 0 or not 0 <= a <= self.p:
            return BAD
        return gcd(n, (self.covered + [sum(self.covered)])[a])

    def digest(self):
        values = [self.p] + (self.c.f if self.c else [])
        for u, v in self.registers:
            values += [*u, *v]
        values += self.amounts + self.told + self.covered + [len(self.row)] + self.row
        h = 347
        for v in values:
            h = (31 * h + v) % 2 ** 64
        return h - 2 ** 64 if h >= 2 ** 63 else h
